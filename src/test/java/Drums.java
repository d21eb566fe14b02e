/** Objects in the states in which calls are tried. */
final class Drums {
    /** Its STEPS take 6, 13, 9, 15, 9, 9 beats; the SUM is 7, 84, 84, 8, 8, 8 behind them. */
    static final String LOOP = "d8 a041 t152 e213 s640 n307 n712";
    /** Each STEP takes 6 beats, 2 of them waited, with 2 READINGS, and adds 50. */
    static final String PAIR = "d6 a010 n350";
    /** A JUMP of 1 beat; then a NUMBER is READ in 4 beats, 3 of them waited. */
    static final String TO_A_NUMBER = "d9 j011 n400";
    /** As many WORDS as PLACES. */
    static final String CROWDED = "d6 j001 j102 j203 j304 j405 n500";

    private Drums() {
    }

    /** Without WORDS; ROWS 0 to 3 of 3, 0, 40, 1 ints; TEXTS 0 to 2: a DRUM, a FAULT, 60 blanks. */
    static DrumWords wordless() {
        DrumWords x = new DrumWords();
        Check.lay(x, 0, 3, 4, 9);
        x.row(1, 0);
        x.row(2, 40);
        x.lay(2, 39, -7);
        Check.lay(x, 3, 6);
        Check.tell(x, 0, LOOP);
        Check.tell(x, 1, "d6");
        x.text(2, 60);
        x.mean(1);
        x.at(2, 39);
        return x;
    }

    /** With 5 DEEDS of all sorts, kept DRUMS 0 and 1, numbers told; PLACES 0 and 4 are free. */
    static DrumWords rich() {
        DrumWords x = wordless();
        x.drum(0);
        x.step();
        x.keep(1);
        x.move(3, 5);
        x.swap(1, 5);
        x.move(0, 6);
        x.value(4, 66);
        x.keep(0);
        x.idle(2);
        x.mean(0);
        return x;
    }

    static DrumWords full() {
        DrumWords x = rich();
        for (int v = x.count(2); v < 40; v++) {
            x.value(5, v);
        }
        return x;
    }

    /** Nothing is due; 2 DEEDS, a kept DRUM. */
    static DrumWords stopped() {
        DrumWords x = wordless();
        Check.tell(x, 0, TO_A_NUMBER);
        x.drum(0);
        x.step();
        x.keep(2);
        x.step();
        x.takes(0);
        return x;
    }

    static DrumWords stoppedAndFull() {
        DrumWords x = stopped();
        for (int v = x.count(2); v < 40; v++) {
            x.value(0, v);
        }
        return x;
    }

    /** A DRUM with so many DEEDS that change nothing but how many there are. */
    static DrumWords withDeeds(String text, int deeds) {
        DrumWords x = Check.drumOf(text);
        for (int k = 0; k < deeds; k++) {
            x.value(0, 0);
        }
        return x;
    }

    static DrumWords withSteps(String text, int steps) {
        DrumWords x = Check.drumOf(text);
        for (int k = 0; k < steps; k++) {
            x.step();
        }
        return x;
    }

    /** A DRUM and a ROW 0 of these. */
    static DrumWords withRow(String text, int... numbers) {
        DrumWords x = Check.drumOf(text);
        Check.lay(x, 0, numbers);
        return x;
    }

    /** What word() tells; LEAST, if it tells nothing. */
    static int ofWord(DrumWords x, int i, int what) {
        return x.word(i, what) == 1 ? x.asked() : Integer.MIN_VALUE;
    }

    /** What at() tells; LEAST, if it tells nothing. */
    static int ofRow(DrumWords x, int r, int i) {
        return x.at(r, i) == 1 ? x.asked() : Integer.MIN_VALUE;
    }
}
