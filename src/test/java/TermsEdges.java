/** The sentences of "What it is" and of the Terms, each with runs of its own. */
final class TermsEdges {
    private final Sentences doc;

    TermsEdges(Sentences doc) {
        this.doc = doc;
    }

    void run() {
        whatItIs();
        clocksAndKeys();
        times();
        gaps();
        often();
        rowsThatCome();
        orderByTime();
        orderOfRowsAndTimers();
        orderByKeyAndNumber();
        orderOfFullLines();
        passUpToNow();
        passSetsAgain();
        passDoesWhatItSets();
        groupsAndTasks();
        exceptions();
    }

    private void test(String words, String lines) {
        doc.test("Terms", words, lines);
    }

    private void whatItIs() {
        doc.test("What it is", "TIMERS are numbered 0, 1, .. as they are set, by calls or in a PASS", """
            row(1, 9) 0
            set(0, 9, 5, 1, 2) 0
            set(0, 9, 5, 1, 51) throws.IllegalArgumentException
            set(1, 8, 5, 0, 0) 1
            pass(0, 5) 1
            timers() 1@5 2@6
            set(1, 7, 9, 0, 0) 3
            pass(0, 7) 2
            order() t2 t4
            cancel(3) true
            set(0, 1, 9, 0, 0) 5
            """);
        doc.test("What it is", "40 WAIT at most.", """
            39 x set(0, 1, 5, 1, 1) *
            set(1, 1, 5, 1, 1) 39
            set(0, 1, 5, 1, 1) throws.IllegalStateException
            set(1, 1, 5, 1, 1) throws.IllegalStateException
            pass(0, 5) 39
            of(0) 40
            set(0, 1, 5, 1, 1) throws.IllegalStateException
            pass(0, 6) 39
            of(0) 1
            set(0, 1, 5, 1, 1) 79
            """);
        doc.test("What it is", "An object is used for at most 512 calls after it has been made; "
                + "what later calls answer is free.", """
            pass(0, 5) 0
            510 x row(1, 5) -1
            of(4) 510
            """);
    }

    private void clocksAndKeys() {
        test("Each has a CLOCK (0 EVENTS, 1 TICKS)", """
            set(0, 1, 5, 0, 0) 0
            set(1, 1, 5, 0, 0) 1
            set(-1, 1, 5, 0, 0) throws.IllegalArgumentException
            set(2, 1, 5, 0, 0) throws.IllegalArgumentException
            told(0, 0) 0
            told(1, 0) 1
            row(1, 5) 0
            pass(1, 5) 1
            order() t1
            pass(0, 5) 2
            order() r0 t0
            """);
        test("a KEY (any number)", """
            set(0, least, 5, 0, 0) 0
            set(0, most, 5, 0, 0) 1
            set(0, 0, 5, 0, 0) 2
            set(0, -1, 5, 0, 0) 3
            told(0, 1) -9223372036854775808
            told(1, 1) 9223372036854775807
            told(3, 1) -1
            waiting(0, least, 5, 5) 1
            waiting(0, most, 5, 5) 1
            row(least, 5) 0
            row(most, 5) 1
            pass(0, 5) 6
            done(0, 2) -9223372036854775808
            done(1, 2) 9223372036854775807
            done(2, 2) -9223372036854775808
            done(5, 2) 9223372036854775807
            """);
    }

    private void times() {
        test("a TIME 0 .. 1000000000000", """
            set(0, 1, 0, 0, 0) 0
            set(0, 1, 1000000000000, 0, 0) 1
            set(0, 1, -1, 0, 0) throws.IllegalArgumentException
            set(0, 1, 1000000000001, 0, 0) throws.IllegalArgumentException
            move(0, 1000000000000) 0
            move(1, 0) 1000000000000
            move(1, -1) throws.IllegalArgumentException
            move(1, 1000000000001) throws.IllegalArgumentException
            timers() 0@1000000000000 1@0
            row(1, 0) 0
            row(1, 1000000000000) 1
            row(1, -1) throws.IllegalArgumentException
            row(1, 1000000000001) throws.IllegalArgumentException
            pass(0, -1) throws.IllegalArgumentException
            pass(0, 1000000000001) throws.IllegalArgumentException
            pass(0, 0) 2
            pass(0, 999999999999) 0
            pass(0, 1000000000000) 2
            """);
        test("a TIME 0 .. 1000000000000", """
            set(0, 1, least, 0, 0) throws.IllegalArgumentException
            set(0, 1, most, 0, 0) throws.IllegalArgumentException
            set(0, 1, 7, 0, 0) 0
            move(0, least) throws.IllegalArgumentException
            move(0, most) throws.IllegalArgumentException
            row(1, least) throws.IllegalArgumentException
            row(1, most) throws.IllegalArgumentException
            pass(0, least) throws.IllegalArgumentException
            pass(0, most) throws.IllegalArgumentException
            set(0, 1, 4294967296, 0, 0) 1
            told(1, 2) 4294967296
            """);
    }

    private void gaps() {
        test("a GAP 0 .. 1000000000", """
            set(0, 1, 5, 0, 1) 0
            set(0, 2, 5, 1000000000, 1) 1
            set(0, 2, 5, -1, 1) throws.IllegalArgumentException
            set(0, 2, 5, 1000000001, 1) throws.IllegalArgumentException
            set(0, 2, 5, least, 1) throws.IllegalArgumentException
            set(0, 2, 5, most, 1) throws.IllegalArgumentException
            set(0, 2, 5, 4294967296, 1) throws.IllegalArgumentException
            set(0, 2, 5, 1000000001, 0) throws.IllegalArgumentException
            told(0, 3) 0
            told(1, 3) 1000000000
            pass(0, 5) 3
            timers() 3@1000000005
            """);
    }

    private void often() {
        test("and how OFTEN it is set again, 0 .. 50", """
            set(0, 1, 5, 1, 0) 0
            set(0, 1, 5, 1, -1) throws.IllegalArgumentException
            pass(0, 1000) 1
            of(2) 1
            """);
        test("and how OFTEN it is set again, 0 .. 50", """
            set(0, 1, 5, 1, 50) 0
            set(0, 1, 5, 1, 51) throws.IllegalArgumentException
            set(0, 1, 5, 1, least) throws.IllegalArgumentException
            set(0, 1, 5, 1, most) throws.IllegalArgumentException
            pass(0, 54) 50
            timers() 50@55
            told(50, 4) 0
            pass(0, 1000) 1
            timers() -
            of(2) 51
            """);
    }

    private void rowsThatCome() {
        test("ROWS are numbered 0, 1, .. as they come", """
            set(0, 1, 5, 0, 0) 0
            row(9, 30) 0
            row(8, 20) 1
            set(0, 1, 5, 0, 0) 1
            row(8, -1) throws.IllegalArgumentException
            row(7, 10) 2
            pass(0, 20) 4
            row(7, 20) -1
            row(7, 40) 3
            clear() 2
            row(7, 40) 0
            """);
        test("40 WAIT at most", """
            39 x row(1, 5) *
            row(1, 5) 39
            of(1) 40
            row(1, 5) throws.IllegalStateException
            of(3) 40
            pass(0, 5) 40
            row(1, 6) 40
            """);
        test("40 WAIT at most", """
            40 x set(0, 1, 5, 0, 0) *
            40 x row(1, 5) *
            row(1, 5) throws.IllegalStateException
            set(0, 1, 5, 0, 0) throws.IllegalStateException
            of(0) 40
            of(1) 40
            """);
        test("each has a KEY and a TIME, and is of EVENTS", """
            row(-3, 5) 0
            row(4, 6) 1
            pass(1, 1000000000000) 0
            of(1) 2
            row(2, 6) 2
            pass(0, 6) 3
            done(0, 2) -3
            done(0, 3) 5
            done(1, 2) 2
            done(1, 3) 6
            done(2, 2) 4
            """);
        test("NOW of each CLOCK is -1 at first", """
            now(0) -1
            now(1) -1
            row(1, 0) 0
            pass(0, -1) throws.IllegalArgumentException
            pass(1, -1) throws.IllegalArgumentException
            pass(0, 0) 1
            pass(1, 0) 0
            now(0) 0
            now(1) 0
            """);
    }

    private void orderByTime() {
        test("THE ORDER of what WAITS on a CLOCK: by TIME", """
            set(0, -9, 1000000000000, 0, 0) 0
            set(0, -8, 4294967297, 0, 0) 1
            set(0, 5, 4294967296, 0, 0) 2
            set(0, 6, 2147483648, 0, 0) 3
            set(0, 7, 2147483647, 0, 0) 4
            set(0, 8, 1, 0, 0) 5
            set(0, 9, 0, 0, 0) 6
            row(-9, 999999999999) 0
            row(8, 2147483649) 1
            row(9, 0) 2
            next(0) 6
            pass(0, 1000000000000) 10
            order() r2 t6 t5 t4 t3 r1 t2 t1 r0 t0
            """);
        test("THE ORDER of what WAITS on a CLOCK", """
            set(0, 5, 7, 0, 0) 0
            set(1, 5, 6, 0, 0) 1
            set(0, 5, 5, 0, 0) 2
            set(1, 5, 4, 0, 0) 3
            next(0) 2
            next(1) 3
            pass(1, 9) 2
            order() t3 t1
            pass(0, 9) 2
            order() t2 t0
            """);
    }

    private void orderOfRowsAndTimers() {
        test("of the same TIME ROWS ahead of TIMERS, if ROWS go FIRST", """
            set(0, least, 5, 0, 0) 0
            set(0, 1, 5, 0, 0) 1
            row(most, 5) 0
            row(2, 5) 1
            set(0, 3, 4, 0, 0) 2
            row(0, 6) 2
            set(0, 0, 6, 0, 0) 3
            pass(0, 6) 7
            order() t2 r1 r0 t0 t1 r2 t3
            """);
        test("else behind them", """
            first(false) true
            row(least, 5) 0
            row(1, 5) 1
            set(0, most, 5, 0, 0) 0
            set(0, 2, 5, 0, 0) 1
            row(3, 4) 2
            set(0, 0, 6, 0, 0) 2
            row(0, 6) 3
            pass(0, 6) 7
            order() r2 t1 t0 r0 r1 t2 r3
            """);
    }

    private void orderByKeyAndNumber() {
        test("of two TIMERS, or two ROWS, by KEY", """
            set(0, most, 5, 0, 0) 0
            set(0, least, 5, 0, 0) 1
            set(0, 0, 5, 0, 0) 2
            set(0, 4294967296, 5, 0, 0) 3
            set(0, -1, 5, 0, 0) 4
            set(0, 1, 5, 0, 0) 5
            row(most, 5) 0
            row(least, 5) 1
            row(0, 5) 2
            row(4294967296, 5) 3
            row(-1, 5) 4
            row(1, 5) 5
            next(0) 1
            pass(0, 5) 12
            order() r1 r4 r2 r5 r3 r0 t1 t4 t2 t5 t3 t0
            """);
        test("then by number", """
            9 x set(0, 3, 6, 0, 0) *
            set(0, 3, 5, 0, 0) 9
            set(0, 3, 5, 0, 0) 10
            set(0, 3, 5, 0, 0) 11
            move(2, 5) 6
            row(3, 5) 0
            row(3, 5) 1
            row(3, 5) 2
            next(0) 2
            pass(0, 5) 7
            order() r0 r1 r2 t2 t9 t10 t11
            """);
        test("then by number", "40 x set(0, 1, 5, 0, 0) *\n40 x row(1, 5) *\npass(0, 5) 80\norder() "
                + numbered("r", 1) + " " + numbered("t", 1));
    }

    /** 40 of each wait, and each comes in at another place of THE ORDER than the one ahead of it. */
    private void orderOfFullLines() {
        StringBuilder lines = new StringBuilder();
        for (int number = 0; number < 40; number++) {
            lines.append("set(0, " + 23 * number % 40 + ", 5, 0, 0) " + number + "\n");
            lines.append("row(" + 17 * number % 40 + ", 5) " + number + "\n");
        }
        // 7 times 23 and 33 times 17 leave 1 in 40: so these steps lead from one key to the next above it.
        test("by KEY", lines + "pass(0, 5) 80\norder() " + numbered("r", 33) + " " + numbered("t", 7));
    }

    private static String numbered(String kind, int step) {
        StringBuilder all = new StringBuilder();
        for (int n = 0; n < 40; n++) {
            all.append(n == 0 ? "" : " ").append(kind).append(step * n % 40);
        }
        return all.toString();
    }

    private void passUpToNow() {
        test("A PASS of a CLOCK: its NOW becomes a TIME", """
            pass(0, 7) 0
            now(0) 7
            now(1) -1
            pass(1, 9) 0
            now(0) 7
            now(1) 9
            pass(0, 8) 0
            now(0) 8
            now(1) 9
            """);
        test("then, as long as something that WAITS on it has a TIME that is not above NOW, "
                + "the first of these in THE ORDER is DONE", """
            set(0, 1, 9, 0, 0) 0
            set(0, 1, 10, 0, 0) 1
            set(0, 1, 11, 0, 0) 2
            set(1, 1, 10, 0, 0) 3
            row(1, 9) 0
            row(1, 10) 1
            row(1, 11) 2
            pass(0, 10) 4
            order() r0 t0 r1 t1
            timers() 2@11 3@10
            of(1) 1
            pass(1, 9) 0
            pass(1, 10) 1
            order() t3
            pass(0, 11) 2
            order() r2 t2
            """);
        test("it WAITS no more", """
            set(0, 1, 5, 0, 0) 0
            row(1, 5) 0
            pass(0, 5) 2
            told(0, 0) throws.NoSuchElementException
            cancel(0) false
            waiting(0, 1, 0, 10) 0
            next(0) -1
            of(0) 0
            of(1) 0
            load(1, 128) 0
            pass(0, 5) 0
            order() -
            """);
    }

    private void passSetsAgain() {
        test("a TIMER whose OFTEN is above 0 is set again: the next number", """
            set(0, 1, 5, 100, 1) 0
            set(0, 1, 5, 100, 0) 1
            set(0, 1, 5, 100, 2) 2
            pass(0, 5) 3
            timers() 3@105 4@105
            of(2) 5
            told(3, 4) 0
            told(4, 4) 1
            told(0, 4) throws.NoSuchElementException
            pass(0, 105) 2
            timers() 5@205
            pass(0, 205) 1
            timers() -
            of(2) 6
            """);
        test("the same CLOCK, KEY, GAP, its TIME and GAP together, OFTEN less by 1", """
            set(1, -77, 5, 30, 9) 0
            pass(1, 20) 1
            told(1, 0) 1
            told(1, 1) -77
            told(1, 2) 35
            told(1, 3) 30
            told(1, 4) 8
            next(0) -1
            move(1, 3) 35
            pass(1, 20) 1
            told(2, 2) 33
            told(2, 3) 30
            told(2, 4) 7
            """);
        test("its TIME and GAP together", """
            set(0, 1, 1000000000000, 1000000000, 2) 0
            pass(0, 1000000000000) 1
            timers() 1@1001000000000
            pass(0, 1000000000000) 0
            move(1, 1000000000000) 1001000000000
            pass(0, 1000000000000) 1
            timers() 2@1001000000000
            """);
        test("a TIMER whose OFTEN is above 0 is set again", """
            40 x set(1, 1, 3, 10, 1) *
            set(1, 1, 3, 10, 1) throws.IllegalStateException
            pass(1, 3) 40
            of(0) 40
            next(1) 40
            told(79, 2) 13
            set(1, 1, 3, 10, 1) throws.IllegalStateException
            pass(1, 13) 40
            of(0) 0
            """);
    }

    private void passDoesWhatItSets() {
        test("(it is DONE in the same PASS, if it is due)", """
            set(0, 1, 10, 5, 3) 0
            pass(0, 20) 3
            order() t0 t1 t2
            done(2, 3) 20
            done(2, 4) 1
            timers() 3@25
            """);
        test("(it is DONE in the same PASS, if it is due)", """
            set(0, 1, 10, 5, 3) 0
            pass(0, 19) 2
            order() t0 t1
            timers() 2@20
            """);
        test("(it is DONE in the same PASS, if it is due)", """
            set(0, 5, 10, 0, 2) 0
            set(0, 6, 10, 0, 1) 1
            set(0, 5, 10, 0, 0) 2
            set(0, 4, 11, 0, 0) 3
            row(0, 10) 0
            row(0, 11) 1
            pass(0, 11) 9
            order() r0 t0 t2 t4 t5 t1 t6 r1 t3
            """);
        test("(it is DONE in the same PASS, if it is due)", """
            first(false) true
            set(0, 5, 10, 0, 2) 0
            set(0, 5, 9, 1, 1) 1
            row(0, 10) 0
            pass(0, 10) 6
            order() t1 t0 t2 t3 t4 r0
            """);
        test("as long as something that WAITS on it has a TIME that is not above NOW", """
            40 x set(1, 1, 0, 0, 50) *
            pass(1, 0) 2040
            of(0) 0
            of(2) 2040
            done(0, 4) 50
            done(39, 1) 39
            done(40, 1) 40
            done(40, 4) 49
            done(2039, 1) 2039
            done(2039, 4) 0
            """);
    }

    private void groupsAndTasks() {
        test("A KEY is of THE GROUP (KEY modulo 128, 0 .. 127)", """
            task(0, 128) 0
            task(1, 128) 1
            task(127, 128) 127
            task(128, 128) 0
            task(255, 128) 127
            task(256, 128) 0
            task(-1, 128) 127
            task(-127, 128) 1
            task(-128, 128) 0
            task(-129, 128) 127
            task(4294967296, 128) 0
            task(4294967297, 128) 1
            task(most, 128) 127
            task(least, 128) 0
            task(-9223372036854775807, 128) 1
            """);
        test("and of THE TASK (GROUP times as many tasks as there are, divided by 128, cut)", """
            task(127, 1) 0
            task(63, 2) 0
            task(64, 2) 1
            task(127, 2) 1
            task(42, 3) 0
            task(43, 3) 1
            task(85, 3) 1
            task(86, 3) 2
            task(127, 3) 2
            task(1, 127) 0
            task(2, 127) 1
            task(127, 127) 126
            task(-1, 3) 2
            task(-128, 3) 0
            """);
    }

    private void exceptions() {
        test("IllegalArgument: a number is none that is told; IllegalState: as told; NoSuchElement: as told.", """
            set(2, 0, 0, 0, 0) throws.IllegalArgumentException
            forget() throws.IllegalStateException
            told(0, 0) throws.NoSuchElementException
            """);
        test("Of several the first one in this order.", """
            move(0, -1) throws.IllegalArgumentException
            done(0, 5) throws.IllegalArgumentException
            told(0, 5) throws.IllegalArgumentException
            40 x set(0, 1, 5, 0, 0) *
            40 x row(1, 5) *
            set(2, 1, 5, 0, 0) throws.IllegalArgumentException
            set(0, 1, 1000000000001, 0, 0) throws.IllegalArgumentException
            set(0, 1, 5, 1000000001, 0) throws.IllegalArgumentException
            set(0, 1, 5, 0, 51) throws.IllegalArgumentException
            row(1, -1) throws.IllegalArgumentException
            row(1, 1000000000001) throws.IllegalArgumentException
            """);
        // Script looks at all that can be seen before and behind each call that throws, and at what comes of it.
        test("A call that throws changes nothing.", """
            39 x set(0, 1, 50, 1, 2) *
            set(1, 1, 50, 1, 2) 39
            39 x row(1, 50) *
            pass(0, 20) 0
            row(1, 20) -1
            row(1, 30) 39
            pass(1, 50) 1
            first(false) true
            keep() 0
            pass(0, 30) 1
            row(5, 60) 40
            keep() 1
            keep() 2
            set(0, 1, 5, 0, 0) throws.IllegalStateException
            set(2, 1, 5, 0, 0) throws.IllegalArgumentException
            row(1, 60) throws.IllegalStateException
            row(1, -1) throws.IllegalArgumentException
            move(0, -1) throws.IllegalArgumentException
            move(39, 5) throws.NoSuchElementException
            pass(0, 29) throws.IllegalArgumentException
            pass(1, 49) throws.IllegalArgumentException
            pass(2, 60) throws.IllegalArgumentException
            done(1, 0) throws.NoSuchElementException
            done(0, 5) throws.IllegalArgumentException
            told(39, 0) throws.NoSuchElementException
            told(0, 5) throws.IllegalArgumentException
            next(2) throws.IllegalArgumentException
            waiting(0, 1, 6, 5) throws.IllegalArgumentException
            keep() throws.IllegalStateException
            back(3) throws.IllegalArgumentException
            task(1, 129) throws.IllegalArgumentException
            load(1, 1) throws.IllegalArgumentException
            of(7) throws.IllegalArgumentException
            now(2) throws.IllegalArgumentException
            """);
        test("A call that throws changes nothing.", """
            set(0, 1, 50, 1, 2) 0
            row(1, 50) 0
            pass(0, 20) 0
            forget() throws.IllegalStateException
            back(0) throws.IllegalArgumentException
            back(-1) throws.IllegalArgumentException
            set(0, 1, 50, 1, 51) throws.IllegalArgumentException
            set(0, 1, 50, 1, 2) 1
            row(1, 1000000000001) throws.IllegalArgumentException
            row(1, 60) 1
            """);
    }
}
