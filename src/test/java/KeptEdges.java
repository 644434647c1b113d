/** The sentences of promises 13 to 19, each with runs of its own. */
final class KeptEdges {
    private final Sentences doc;

    KeptEdges(Sentences doc) {
        this.doc = doc;
    }

    void run() {
        keep();
        keepRefused();
        back();
        backAndOn();
        backRefused();
        forget();
        task();
        load();
        loadRefused();
        of();
        ofRefused();
        now();
    }

    private void keep() {
        doc.test("13", "What WAITS", """
            set(0, 1, 5, 2, 3) 0
            set(1, 2, 6, 0, 0) 1
            row(3, 4) 0
            row(2, 4) 1
            keep() 0
            cancel(0) true
            move(1, 9) 6
            pass(0, 4) 2
            back(0) 2
            timers() 0@5 1@6
            told(0, 3) 2
            told(0, 4) 3
            told(1, 0) 1
            of(1) 2
            pass(0, 4) 2
            order() r1 r0
            done(1, 2) 3
            pass(0, 5) 1
            timers() 1@6 2@7
            """);
        // Others that wait meanwhile, unlike in everything, take nothing from what is kept.
        doc.test("13", "What WAITS", """
            set(1, 1, 5, 2, 3) 0
            set(1, 2, 6, 4, 1) 1
            row(3, 4) 0
            row(2, 4) 1
            keep() 0
            cancel(0) true
            cancel(1) true
            pass(0, 4) 2
            set(0, 7, 35, 8, 9) 2
            set(0, 8, 36, 6, 7) 3
            row(9, 40) 2
            row(8, 41) 3
            back(0) 2
            timers() 0@5 1@6
            told(0, 0) 1
            told(0, 1) 1
            told(0, 3) 2
            told(0, 4) 3
            told(1, 0) 1
            told(1, 1) 2
            told(1, 3) 4
            told(1, 4) 1
            pass(0, 4) 2
            order() r1 r0
            done(0, 2) 2
            done(1, 2) 3
            done(1, 3) 4
            """);
        doc.test("13", "both NOWS", """
            keep() 0
            pass(0, 5) 0
            pass(1, 7) 0
            keep() 1
            pass(0, 8) 0
            pass(1, 9) 0
            back(1) 0
            now(0) 5
            now(1) 7
            row(1, 5) -1
            row(1, 6) 0
            pass(1, 6) throws.IllegalArgumentException
            back(0) 0
            now(0) -1
            now(1) -1
            pass(0, 0) 0
            """);
        doc.test("13", "numbers and LATE ones that were counted", """
            3 x set(0, 1, 5, 0, 0) *
            2 x row(1, 6) *
            pass(0, 5) 3
            row(1, 5) -1
            keep() 0
            set(0, 1, 5, 0, 0) 3
            row(1, 6) 2
            row(1, 5) -1
            row(1, 4) -1
            back(0) 0
            of(2) 3
            of(3) 2
            of(4) 1
            """);
        doc.test("13", "and whether ROWS go FIRST are KEPT", """
            keep() 0
            first(false) true
            keep() 1
            first(true) false
            back(1) 0
            first(true) false
            back(0) 0
            first(false) true
            back(1) 0
            set(0, 1, 5, 0, 0) 0
            row(1, 5) 0
            pass(0, 5) 2
            order() t0 r0
            """);
        doc.test("13", "in which place, from 0.", """
            keep() 0
            keep() 1
            forget() 1
            keep() 1
            keep() 2
            back(0) 0
            forget() 2
            keep() 2
            clear() 0
            keep() 0
            """);
    }

    private void keepRefused() {
        doc.test("13", "IllegalState: three are KEPT.", """
            keep() 0
            set(0, 1, 5, 0, 0) 0
            keep() 1
            set(0, 1, 5, 0, 0) 1
            keep() 2
            set(0, 1, 5, 0, 0) 2
            keep() throws.IllegalStateException
            keep() throws.IllegalStateException
            of(5) 3
            back(2) 2
            keep() throws.IllegalStateException
            back(1) 1
            back(0) 0
            forget() 2
            keep() 2
            keep() throws.IllegalStateException
            """);
    }

    private void back() {
        doc.test("14", "All that is KEPT in a place comes back", """
            set(0, 1, 5, 0, 0) 0
            keep() 0
            row(1, 6) 0
            keep() 1
            set(1, 1, 7, 0, 0) 1
            keep() 2
            clear() 3
            set(0, 1, 5, 0, 0) 0
            keep() 0
            40 x row(1, 6) *
            39 x set(1, 1, 7, 0, 0) *
            keep() 1
            pass(0, 1000) 41
            back(1) 40
            of(1) 40
            row(1, 6) throws.IllegalStateException
            set(0, 1, 6, 0, 0) throws.IllegalStateException
            back(0) 1
            of(1) 0
            timers() 0@5
            """);
        doc.test("14", "numbers go on from there", """
            set(0, 1, 5, 0, 0) 0
            row(1, 5) 0
            keep() 0
            set(0, 2, 6, 0, 0) 1
            row(2, 6) 1
            back(0) 1
            set(0, 3, 7, 0, 0) 1
            row(3, 7) 1
            told(1, 1) 3
            pass(0, 7) 4
            order() r0 t0 r1 t1
            done(2, 2) 3
            """);
        doc.test("14", "(what is KEPT stays so", """
            set(0, 1, 5, 1, 3) 0
            row(1, 6) 0
            keep() 0
            back(0) 1
            cancel(0) true
            pass(0, 9) 1
            row(1, 9) -1
            first(false) true
            back(0) 1
            timers() 0@5
            told(0, 4) 3
            of(1) 1
            of(4) 0
            of(5) 1
            move(0, 8) 5
            back(0) 1
            timers() 0@5
            pass(0, 6) 3
            back(0) 1
            first(true) true
            pass(0, 6) 3
            order() t0 r0 t1
            """);
    }

    private void backAndOn() {
        doc.test("14", "and what was DONE in the last PASS)", """
            set(0, 1, 5, 0, 0) 0
            keep() 0
            row(1, 5) 0
            pass(0, 5) 2
            back(0) 1
            of(6) 2
            order() r0 t0
            done(2, 0) throws.NoSuchElementException
            back(0) 1
            order() r0 t0
            pass(1, 0) 0
            of(6) 0
            back(0) 1
            of(6) 0
            """);
        doc.test("14", "How many TIMERS WAIT then.", """
            keep() 0
            set(0, 1, 5, 0, 0) 0
            set(1, 1, 5, 0, 0) 1
            row(1, 5) 0
            keep() 1
            38 x set(1, 1, 5, 0, 0) *
            keep() 2
            back(0) 0
            back(1) 2
            back(2) 40
            of(0) 40
            """);
    }

    private void backRefused() {
        doc.test("14", "IllegalArgument: nothing is KEPT there.", """
            back(0) throws.IllegalArgumentException
            keep() 0
            back(1) throws.IllegalArgumentException
            back(-1) throws.IllegalArgumentException
            keep() 1
            back(2) throws.IllegalArgumentException
            keep() 2
            back(3) throws.IllegalArgumentException
            back(-1) throws.IllegalArgumentException
            back(least) throws.IllegalArgumentException
            back(most) throws.IllegalArgumentException
            back(2) 0
            forget() 2
            back(2) throws.IllegalArgumentException
            forget() 1
            back(1) throws.IllegalArgumentException
            back(0) 0
            forget() 0
            back(0) throws.IllegalArgumentException
            """);
    }

    private void forget() {
        doc.test("15", "The last one that was KEPT is so no more: how many are.", """
            set(0, 1, 5, 0, 0) 0
            keep() 0
            set(0, 1, 6, 0, 0) 1
            keep() 1
            set(0, 1, 7, 0, 0) 2
            keep() 2
            forget() 2
            of(5) 2
            of(0) 3
            back(1) 2
            forget() 1
            back(0) 1
            set(0, 9, 8, 0, 0) 1
            set(0, 9, 8, 0, 0) 2
            set(0, 9, 8, 0, 0) 3
            keep() 1
            back(0) 1
            back(1) 4
            forget() 1
            forget() 0
            of(5) 0
            timers() 0@5 1@8 2@8 3@8
            """);
        doc.test("15", "IllegalState: none is.", """
            forget() throws.IllegalStateException
            keep() 0
            forget() 0
            forget() throws.IllegalStateException
            keep() 0
            keep() 1
            clear() 0
            forget() throws.IllegalStateException
            of(5) 0
            keep() 0
            """);
    }

    private void task() {
        doc.test("16", "THE TASK of a KEY, of so many (1 .. 128).", """
            task(0, 1) 0
            task(127, 1) 0
            task(most, 1) 0
            task(least, 1) 0
            task(127, 128) 127
            task(128, 128) 0
            task(-1, 128) 127
            task(63, 2) 0
            task(64, 2) 1
            """);
        doc.test("16", "IllegalArgument.", """
            task(5, 0) throws.IllegalArgumentException
            task(5, 129) throws.IllegalArgumentException
            task(5, -1) throws.IllegalArgumentException
            task(5, least) throws.IllegalArgumentException
            task(5, most) throws.IllegalArgumentException
            """);
    }

    private void load() {
        doc.test("17", "How many TIMERS and ROWS WAIT whose KEY is of a TASK of so many.", """
            set(0, 42, 5, 0, 0) 0
            set(1, 43, 5, 0, 0) 1
            set(1, -1, 5, 1, 1) 2
            row(42, 5) 0
            row(86, 6) 1
            row(128, 6) 2
            load(0, 1) 6
            load(0, 3) 3
            load(1, 3) 1
            load(2, 3) 2
            load(0, 128) 1
            load(42, 128) 2
            load(126, 128) 0
            load(127, 128) 1
            row(86, -1) throws.IllegalArgumentException
            pass(0, 5) 2
            row(86, 5) -1
            load(0, 3) 1
            load(2, 3) 2
            pass(1, 5) 2
            load(2, 3) 2
            cancel(3) true
            load(2, 3) 1
            """);
        doc.test("17", "How many TIMERS and ROWS WAIT", """
            load(0, 1) 0
            40 x set(0, 64, 5, 0, 0) *
            40 x row(63, 5) *
            load(0, 1) 80
            load(0, 2) 40
            load(1, 2) 40
            pass(0, 5) 80
            load(0, 1) 0
            """);
    }

    private void loadRefused() {
        doc.test("17", "IllegalArgument.", """
            load(0, 0) throws.IllegalArgumentException
            load(0, 129) throws.IllegalArgumentException
            load(0, -1) throws.IllegalArgumentException
            load(0, least) throws.IllegalArgumentException
            load(0, most) throws.IllegalArgumentException
            load(-1, -1) throws.IllegalArgumentException
            """);
        doc.test("17", "IllegalArgument.", """
            load(-1, 3) throws.IllegalArgumentException
            load(3, 3) throws.IllegalArgumentException
            load(2, 3) 0
            load(1, 1) throws.IllegalArgumentException
            load(127, 128) 0
            load(128, 128) throws.IllegalArgumentException
            load(least, 128) throws.IllegalArgumentException
            load(most, 128) throws.IllegalArgumentException
            """);
    }

    private void of() {
        doc.test("18", "What = 0 how many TIMERS WAIT, 1 ROWS", """
            of(0) 0
            of(1) 0
            set(0, 1, 5, 0, 0) 0
            set(1, 1, 5, 0, 0) 1
            row(1, 5) 0
            of(0) 2
            of(1) 1
            pass(0, 5) 2
            of(0) 1
            of(1) 0
            38 x set(0, 1, 5, 0, 0) *
            39 x row(1, 6) *
            of(0) 39
            of(1) 39
            set(0, 1, 5, 0, 0) 40
            row(1, 6) 40
            of(0) 40
            of(1) 40
            """);
        doc.test("18", "2 how many TIMERS were set (the next number), 3 ROWS that came (the next number), "
                + "4 LATE ones", """
            set(0, 1, 5, 1, 2) 0
            row(1, 5) 0
            of(2) 1
            of(3) 1
            of(4) 0
            pass(0, 6) 3
            of(2) 3
            row(1, 6) -1
            row(1, 0) -1
            row(1, -1) throws.IllegalArgumentException
            of(3) 1
            of(4) 2
            cancel(2) true
            of(2) 3
            set(0, 1, 5, 1, 2) 3
            row(1, 7) 1
            """);
        doc.test("18", "5 how many are KEPT, 6 how many were DONE in the last PASS.", """
            of(5) 0
            of(6) 0
            keep() 0
            of(5) 1
            keep() 1
            keep() 2
            of(5) 3
            forget() 2
            of(5) 2
            set(0, 1, 5, 1, 2) 0
            row(1, 5) 0
            pass(0, 6) 3
            of(6) 3
            back(0) 0
            of(5) 2
            of(6) 3
            pass(1, 6) 0
            of(6) 0
            """);
    }

    private void ofRefused() {
        doc.test("18", "IllegalArgument.", """
            of(-1) throws.IllegalArgumentException
            of(7) throws.IllegalArgumentException
            of(least) throws.IllegalArgumentException
            of(most) throws.IllegalArgumentException
            of(6) 0
            """);
    }

    private void now() {
        doc.test("19", "NOW of a CLOCK.", """
            now(0) -1
            now(1) -1
            pass(1, 7) 0
            now(0) -1
            now(1) 7
            pass(0, 1000000000000) 0
            now(0) 1000000000000
            now(1) 7
            pass(1, 6) throws.IllegalArgumentException
            now(1) 7
            clear() 0
            now(0) -1
            now(1) -1
            """);
        doc.test("19", "IllegalArgument.", """
            now(-1) throws.IllegalArgumentException
            now(2) throws.IllegalArgumentException
            now(least) throws.IllegalArgumentException
            now(most) throws.IllegalArgumentException
            """);
    }
}
