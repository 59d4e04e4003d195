/** All that can be seen of an object, as one text, so that two objects can be laid side by side. */
final class Look {
    private Look() {
    }

    /** What can be seen without using anything up; the refusals are left to whoever counts them. */
    static String open(TouchedAndStands x) {
        StringBuilder s = new StringBuilder();
        for (int what = 0; what <= 8; what++) {
            s.append(what == 0 ? "" : " ").append(x.count(what));
        }
        int children = x.count(0);
        for (int child = 0; child < children; child++) {
            s.append(" |");
            for (int what = 0; what <= 4; what++) {
                s.append(' ').append(x.child(child, what));
            }
            s.append(" owes");
            for (int other = 0; other < children; other++) {
                s.append(' ').append(x.owes(child, other));
            }
        }
        return s.toString();
    }

    /** The ROW, the letters and the image, too: what they hold shows when they are used up. */
    static String all(TouchedAndStands x) {
        StringBuilder s = new StringBuilder(open(x));
        s.append(" ; fits ").append(x.fits(0)).append(" judge ").append(x.judge());
        if (x.count(8) < 96) {
            x.letter(';');
        }
        s.append(" ; yard ").append(x.yard()).append(" ; ").append(open(x));
        s.append(" ; on ").append(x.on()).append(" ; ").append(open(x));
        return s.toString();
    }
}
