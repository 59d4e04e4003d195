/** Yards in which the tests refuse, ask and look; each call makes the same one anew. */
final class States {
    private States() {
    }

    /** A freer, a runner, a catcher, a runner who stands; law 2, an image, two in the row, letters, freed, tired. */
    static TouchedAndStands some() {
        TouchedAndStands x = Check.told("kf000;kr031;kc230;kr120;t1;l2;");
        x.seconds(5);
        x.image();
        x.seconds(1);
        x.touch(3);
        x.go(2, 17);
        x.row(1);
        x.row(2);
        x.letter('t');
        x.letter('0');
        return x;
    }

    /** Nobody. */
    static TouchedAndStands nobody() {
        return new TouchedAndStands();
    }

    /** Catchers alone. */
    static TouchedAndStands catchers() {
        return Check.told("kc000;kg110;");
    }

    /** Eight children, the second 999, a row of 20 numbers, 96 letters, an image. */
    static TouchedAndStands full() {
        TouchedAndStands x = new TouchedAndStands();
        for (int i = 0; i < 16; i++) {
            x.seconds(60);
        }
        x.seconds(39);
        Check.tell(x, "kr000;kf017;kp021;kh030;kc140;kg150;kw160;kb231;t0;t2;l3;");
        x.image();
        for (int i = 0; i < 20; i++) {
            x.row(i % 9);
        }
        for (int i = 0; i < 32; i++) {
            x.letter('l');
            x.letter('2');
            x.letter(';');
        }
        return x;
    }
}
