/** The sentences of promises 1 to 12, each with runs of its own. */
final class CallEdges {
    private final Sentences doc;

    CallEdges(Sentences doc) {
        this.doc = doc;
    }

    void run() {
        newObject();
        clear();
        clearBringsAllBack();
        set();
        setRefused();
        setWhenFull();
        move();
        moveRefused();
        cancel();
        row();
        rowLate();
        rowRefused();
        first();
        pass();
        passRefused();
        done();
        doneRefused();
        told();
        next();
        waiting();
        waitingRefused();
    }

    private void newObject() {
        doc.test("1", "Nothing WAITS", """
            of(0) 0
            of(1) 0
            of(2) 0
            of(3) 0
            of(4) 0
            next(0) -1
            next(1) -1
            load(0, 1) 0
            cancel(0) false
            told(0, 0) throws.NoSuchElementException
            pass(0, 1000000000000) 0
            pass(1, 1000000000000) 0
            """);
        doc.test("1", "is KEPT", """
            of(5) 0
            back(0) throws.IllegalArgumentException
            forget() throws.IllegalStateException
            keep() 0
            """);
        doc.test("1", "was DONE", """
            of(6) 0
            done(0, 0) throws.NoSuchElementException
            """);
        doc.test("1", "ROWS go FIRST.", """
            set(0, 1, 5, 0, 0) 0
            row(1, 5) 0
            pass(0, 5) 2
            order() r0 t0
            first(true) true
            """);
    }

    private void clear() {
        doc.test("2", "how many TIMERS and ROWS waited", """
            clear() 0
            set(0, 1, 5, 0, 0) 0
            clear() 1
            row(1, 5) 0
            clear() 1
            set(1, 1, 5, 0, 0) 0
            row(1, 5) 0
            clear() 2
            clear() 0
            """);
        doc.test("2", "how many TIMERS and ROWS waited", """
            39 x set(0, 1, 5, 0, 0) *
            set(1, 1, 5, 0, 0) 39
            40 x row(1, 6) *
            clear() 80
            40 x set(0, 1, 5, 0, 0) *
            40 x row(1, 6) *
            cancel(3) true
            pass(0, 5) 39
            row(1, 5) -1
            clear() 40
            """);
    }

    private void clearBringsAllBack() {
        doc.test("2", "All as at first", """
            set(0, 1, 5, 2, 1) 0
            set(1, 2, 50, 0, 0) 1
            row(3, 4) 0
            row(3, 40) 1
            first(false) true
            keep() 0
            keep() 1
            keep() 2
            pass(1, 8) 0
            pass(0, 5) 2
            row(3, 5) -1
            clear() 3
            of(0) 0
            of(1) 0
            of(2) 0
            of(3) 0
            of(4) 0
            of(5) 0
            of(6) 0
            now(0) -1
            now(1) -1
            done(0, 0) throws.NoSuchElementException
            told(1, 0) throws.NoSuchElementException
            told(2, 0) throws.NoSuchElementException
            forget() throws.IllegalStateException
            back(0) throws.IllegalArgumentException
            row(3, 0) 0
            set(0, 3, 0, 0, 0) 0
            pass(1, 0) 0
            pass(0, 0) 2
            order() r0 t0
            keep() 0
            back(1) throws.IllegalArgumentException
            first(true) true
            """);
        doc.test("2", "All as at first", """
            40 x set(1, 1, 5, 1, 50) *
            40 x row(1, 5) *
            pass(1, 1000) 2040
            pass(0, 1000) 40
            clear() 0
            40 x set(0, 1, 5, 0, 0) *
            40 x row(1, 5) *
            set(0, 1, 5, 0, 0) throws.IllegalStateException
            of(2) 40
            of(3) 40
            """);
    }

    private void set() {
        doc.test("3", "A TIMER is set (it WAITS, also if its TIME is not above NOW)", """
            pass(0, 10) 0
            set(0, 1, 10, 0, 0) 0
            set(0, 1, 9, 0, 0) 1
            set(0, 1, 0, 0, 0) 2
            set(0, 1, 11, 0, 0) 3
            of(6) 0
            of(0) 4
            timers() 0@10 1@9 2@0 3@11
            next(0) 2
            waiting(0, 1, 0, 10) 3
            pass(0, 10) 3
            order() t2 t1 t0
            """);
        doc.test("3", "its number", """
            set(0, 9, 5, 0, 0) 0
            set(1, 8, 5, 0, 0) 1
            cancel(1) true
            set(0, 7, 5, 3, 1) 2
            set(0, 7, -1, 3, 1) throws.IllegalArgumentException
            row(1, 5) 0
            pass(0, 5) 3
            set(0, 7, 5, 0, 0) 4
            timers() 3@8 4@5
            """);
    }

    private void setRefused() {
        doc.test("3", "IllegalArgument", """
            set(-1, 1, 5, 0, 0) throws.IllegalArgumentException
            set(2, 1, 5, 0, 0) throws.IllegalArgumentException
            set(least, 1, 5, 0, 0) throws.IllegalArgumentException
            set(most, 1, 5, 0, 0) throws.IllegalArgumentException
            set(1, 1, 5, 0, 0) 0
            """);
        doc.test("3", "IllegalArgument", """
            set(0, 1, -1, 0, 0) throws.IllegalArgumentException
            set(0, 1, 1000000000001, 0, 0) throws.IllegalArgumentException
            set(0, 1, 1000000000000, 0, 0) 0
            set(0, 1, 0, 0, 0) 1
            """);
        doc.test("3", "IllegalArgument", """
            set(0, 1, 5, -1, 0) throws.IllegalArgumentException
            set(0, 1, 5, 1000000001, 0) throws.IllegalArgumentException
            set(0, 1, 5, 1000000000, 0) 0
            """);
        doc.test("3", "IllegalArgument", """
            set(0, 1, 5, 0, -1) throws.IllegalArgumentException
            set(0, 1, 5, 0, 51) throws.IllegalArgumentException
            set(0, 1, 5, 0, 50) 0
            """);
    }

    private void setWhenFull() {
        doc.test("3", "IllegalState: 40 WAIT.", """
            20 x set(0, 1, 5, 0, 0) *
            19 x set(1, 1, 5, 0, 0) *
            set(0, 1, 5, 0, 0) 39
            set(0, 1, 5, 0, 0) throws.IllegalStateException
            set(1, 1, 5, 0, 0) throws.IllegalStateException
            of(0) 40
            of(2) 40
            """);
        doc.test("3", "IllegalState: 40 WAIT.", """
            pass(0, 10) 0
            40 x set(0, 1, 5, 0, 0) *
            set(0, 1, 5, 0, 0) throws.IllegalStateException
            cancel(20) true
            set(0, 1, 5, 0, 0) 40
            set(0, 1, 5, 0, 0) throws.IllegalStateException
            pass(0, 10) 40
            set(0, 1, 5, 0, 0) 41
            """);
        doc.test("3", "IllegalState: 40 WAIT.", """
            40 x row(1, 5) *
            40 x set(0, 1, 5, 0, 0) *
            set(0, 1, 5, 0, 0) throws.IllegalStateException
            pass(0, 4) 0
            set(0, 1, 5, 0, 0) throws.IllegalStateException
            clear() 80
            set(0, 1, 5, 0, 0) 0
            """);
    }

    private void move() {
        doc.test("4", "A TIMER that WAITS gets another TIME: what it was.", """
            set(1, -4, 20, 7, 3) 0
            set(1, 5, 10, 0, 0) 1
            move(0, 0) 20
            move(0, 1000000000000) 0
            move(0, 8) 1000000000000
            move(0, 8) 8
            told(0, 0) 1
            told(0, 1) -4
            told(0, 2) 8
            told(0, 3) 7
            told(0, 4) 3
            next(1) 0
            timers() 0@8 1@10
            of(2) 2
            pass(1, 8) 1
            timers() 1@10 2@15
            """);
        doc.test("4", "A TIMER that WAITS gets another TIME", """
            set(0, 1, 5, 0, 0) 0
            set(0, 1, 6, 0, 0) 1
            set(0, 1, 7, 0, 0) 2
            move(0, 7) 5
            next(0) 1
            move(2, 6) 7
            next(0) 1
            move(1, 8) 6
            next(0) 2
            pass(0, 8) 3
            order() t2 t0 t1
            """);
        doc.test("4", "A TIMER that WAITS gets another TIME", """
            set(0, 1, 50, 0, 0) 0
            pass(0, 20) 0
            move(0, 20) 50
            of(0) 1
            of(6) 0
            move(0, 3) 20
            timers() 0@3
            pass(0, 20) 1
            done(0, 3) 3
            """);
        doc.test("4", "A TIMER that WAITS gets another TIME", """
            40 x set(0, 1, 5, 0, 0) *
            move(39, 4) 5
            move(0, 6) 5
            move(20, 6) 5
            next(0) 39
            of(0) 40
            pass(0, 4) 1
            pass(0, 5) 37
            pass(0, 6) 2
            order() t0 t20
            """);
    }

    private void moveRefused() {
        doc.test("4", "IllegalArgument", """
            set(0, 1, 5, 0, 0) 0
            move(0, -1) throws.IllegalArgumentException
            move(0, 1000000000001) throws.IllegalArgumentException
            move(0, least) throws.IllegalArgumentException
            move(0, most) throws.IllegalArgumentException
            move(1, -1) throws.IllegalArgumentException
            move(-1, 1000000000001) throws.IllegalArgumentException
            timers() 0@5
            """);
        doc.test("4", "NoSuchElement: none of this number WAITS.", """
            move(0, 5) throws.NoSuchElementException
            row(1, 5) 0
            move(0, 5) throws.NoSuchElementException
            set(0, 1, 5, 4, 1) 0
            move(1, 5) throws.NoSuchElementException
            move(-1, 5) throws.NoSuchElementException
            move(least, 5) throws.NoSuchElementException
            move(most, 5) throws.NoSuchElementException
            pass(0, 5) 2
            move(0, 5) throws.NoSuchElementException
            move(1, 10) 9
            cancel(1) true
            move(1, 10) throws.NoSuchElementException
            set(0, 1, 5, 0, 0) 2
            clear() 1
            move(2, 5) throws.NoSuchElementException
            """);
    }

    private void cancel() {
        doc.test("5", "A TIMER WAITS no more: whether it did.", """
            cancel(0) false
            set(0, 1, 5, 1, 9) 0
            cancel(0) true
            cancel(0) false
            of(0) 0
            next(0) -1
            told(0, 0) throws.NoSuchElementException
            load(0, 1) 0
            pass(0, 100) 0
            of(2) 1
            """);
        doc.test("5", "whether it did", """
            row(1, 5) 0
            cancel(0) false
            of(1) 1
            set(0, 1, 5, 1, 1) 0
            cancel(-1) false
            cancel(1) false
            cancel(least) false
            cancel(most) false
            pass(0, 5) 2
            cancel(0) false
            cancel(1) true
            of(0) 0
            """);
        doc.test("5", "A TIMER WAITS no more", """
            40 x set(0, 1, 5, 0, 0) *
            cancel(0) true
            cancel(39) true
            cancel(17) true
            of(0) 37
            next(0) 1
            pass(0, 5) 37
            done(0, 1) 1
            done(15, 1) 16
            done(16, 1) 18
            done(36, 1) 38
            """);
    }

    private void row() {
        doc.test("6", "A ROW comes: its number", """
            row(5, 10) 0
            row(5, 10) 1
            set(0, 1, 5, 0, 0) 0
            row(4, 3) 2
            of(1) 3
            pass(0, 3) 1
            row(4, 4) 3
            """);
    }

    private void rowLate() {
        doc.test("6", "NONE: it is LATE, its TIME is not above NOW of EVENTS", """
            row(1, 0) 0
            pass(0, 10) 1
            row(1, 10) -1
            row(1, 9) -1
            row(1, 0) -1
            row(1, 11) 1
            of(4) 3
            """);
        doc.test("6", "its TIME is not above NOW of EVENTS", """
            pass(1, 100) 0
            row(1, 5) 0
            row(1, 100) 1
            of(4) 0
            pass(0, 1000000000000) 2
            row(1, 1000000000000) -1
            of(4) 1
            """);
        doc.test("6", "(it has no number, and does not WAIT", """
            pass(0, 10) 0
            row(1, 20) 0
            row(1, 10) -1
            of(1) 1
            of(3) 1
            load(0, 1) 1
            row(1, 20) 1
            pass(0, 20) 2
            order() r0 r1
            """);
        doc.test("6", "that is never too many)", """
            pass(0, 10) 0
            40 x row(1, 20) *
            row(1, 10) -1
            row(1, 0) -1
            of(4) 2
            of(1) 40
            row(1, 11) throws.IllegalStateException
            60 x row(1, 5) -1
            of(4) 62
            """);
    }

    private void rowRefused() {
        doc.test("6", "IllegalArgument", """
            row(1, -1) throws.IllegalArgumentException
            row(1, 1000000000001) throws.IllegalArgumentException
            row(1, least) throws.IllegalArgumentException
            row(1, most) throws.IllegalArgumentException
            of(4) 0
            pass(0, 10) 0
            row(1, -1) throws.IllegalArgumentException
            of(4) 0
            """);
        doc.test("6", "IllegalState: 40 WAIT.", """
            40 x set(0, 1, 20, 0, 0) *
            39 x row(1, 20) *
            row(1, 1000000000000) 39
            row(1, 20) throws.IllegalStateException
            row(1, 0) throws.IllegalStateException
            row(1, -1) throws.IllegalArgumentException
            pass(0, 19) 0
            row(1, 20) throws.IllegalStateException
            pass(0, 20) 79
            row(1, 21) 40
            38 x row(1, 21) *
            row(1, 21) throws.IllegalStateException
            """);
    }

    private void first() {
        doc.test("7", "Whether ROWS go FIRST: what it was.", """
            first(false) true
            first(false) false
            first(true) false
            first(true) true
            """);
        doc.test("7", "Whether ROWS go FIRST", """
            set(0, 1, 5, 0, 0) 0
            row(1, 5) 0
            set(0, 1, 6, 0, 0) 1
            row(1, 6) 1
            set(0, 1, 7, 0, 0) 2
            row(1, 7) 2
            first(false) true
            pass(0, 5) 2
            order() t0 r0
            pass(0, 6) 2
            order() t1 r1
            first(true) false
            order() t1 r1
            pass(0, 7) 2
            order() r2 t2
            """);
    }

    private void pass() {
        doc.test("8", "A PASS: how many TIMERS and ROWS were DONE.", """
            pass(0, 0) 0
            set(0, 1, 5, 2, 1) 0
            pass(0, 4) 0
            pass(0, 5) 1
            row(1, 6) 0
            pass(0, 6) 1
            row(1, 7) 1
            pass(0, 7) 2
            pass(0, 7) 0
            """);
        doc.test("8", "how many TIMERS and ROWS were DONE", """
            40 x set(0, 1, 0, 0, 50) *
            40 x row(1, 0) *
            pass(1, 5) 0
            pass(0, 0) 2080
            of(6) 2080
            done(39, 0) 0
            done(40, 0) 1
            done(2079, 1) 2039
            done(2080, 1) throws.NoSuchElementException
            pass(0, 0) 0
            of(6) 0
            """);
    }

    private void passRefused() {
        doc.test("8", "IllegalArgument", """
            set(0, 1, 5, 0, 0) 0
            set(1, 1, 5, 0, 0) 1
            pass(-1, 5) throws.IllegalArgumentException
            pass(2, 5) throws.IllegalArgumentException
            pass(least, 5) throws.IllegalArgumentException
            pass(most, 5) throws.IllegalArgumentException
            pass(0, -1) throws.IllegalArgumentException
            pass(1, -1) throws.IllegalArgumentException
            pass(0, 1000000000001) throws.IllegalArgumentException
            pass(0, most) throws.IllegalArgumentException
            now(0) -1
            now(1) -1
            """);
        doc.test("8", "also a TIME below NOW.", """
            set(0, 1, 5, 0, 0) 0
            row(1, 7) 0
            pass(0, 6) 1
            set(0, 1, 3, 0, 0) 1
            pass(0, 5) throws.IllegalArgumentException
            pass(0, 0) throws.IllegalArgumentException
            now(0) 6
            order() t0
            pass(1, 5) 0
            pass(1, 4) throws.IllegalArgumentException
            pass(0, 6) 1
            pass(0, 1000000000000) 1
            pass(0, 999999999999) throws.IllegalArgumentException
            pass(0, 1000000000000) 0
            """);
    }

    private void done() {
        doc.test("9", "Of the i-th that was DONE in the last PASS, from 0", """
            row(1, 5) 0
            set(0, 1, 6, 0, 0) 0
            set(1, 1, 5, 0, 0) 1
            pass(0, 6) 2
            done(0, 3) 5
            done(1, 3) 6
            pass(0, 3) throws.IllegalArgumentException
            done(1, 3) 6
            cancel(1) true
            done(1, 3) 6
            set(1, 4, 5, 0, 0) 2
            pass(1, 5) 1
            done(0, 1) 2
            done(1, 1) throws.NoSuchElementException
            pass(0, 6) 0
            done(0, 1) throws.NoSuchElementException
            """);
        doc.test("9", "what = 0 whether it is a TIMER (1), a ROW (0), 1 its number, 2 KEY, 3 TIME, "
                + "4 OFTEN (of a ROW 0).", """
            2 x row(-8, 4) *
            5 x set(0, 3, 90, 0, 0) *
            set(0, -7, 50, 2, 9) 5
            move(5, 5) 50
            pass(0, 7) 4
            done(1, 0) 0
            done(1, 1) 1
            done(1, 2) -8
            done(1, 3) 4
            done(1, 4) 0
            done(2, 0) 1
            done(2, 1) 5
            done(2, 2) -7
            done(2, 3) 5
            done(2, 4) 9
            done(3, 0) 1
            done(3, 1) 6
            done(3, 2) -7
            done(3, 3) 7
            done(3, 4) 8
            """);
    }

    private void doneRefused() {
        doc.test("9", "IllegalArgument: what", """
            done(0, 5) throws.IllegalArgumentException
            done(0, -1) throws.IllegalArgumentException
            row(1, 5) 0
            pass(0, 5) 1
            done(0, 5) throws.IllegalArgumentException
            done(0, -1) throws.IllegalArgumentException
            done(0, least) throws.IllegalArgumentException
            done(0, most) throws.IllegalArgumentException
            done(1, 5) throws.IllegalArgumentException
            done(-1, -1) throws.IllegalArgumentException
            """);
        doc.test("9", "NoSuchElement.", """
            done(0, 0) throws.NoSuchElementException
            row(1, 5) 0
            set(0, 1, 5, 0, 1) 0
            done(0, 4) throws.NoSuchElementException
            pass(0, 5) 3
            done(3, 0) throws.NoSuchElementException
            done(3, 4) throws.NoSuchElementException
            done(-1, 0) throws.NoSuchElementException
            done(least, 1) throws.NoSuchElementException
            done(most, 2) throws.NoSuchElementException
            done(2, 4) 0
            """);
    }

    private void told() {
        doc.test("10", "Of a TIMER that WAITS: what = 0 its CLOCK, 1 KEY, 2 TIME, 3 GAP, 4 OFTEN.", """
            set(0, 3, 7, 11, 2) 0
            set(1, -7, 5, 1000000000, 50) 1
            told(0, 0) 0
            told(0, 1) 3
            told(0, 2) 7
            told(0, 3) 11
            told(0, 4) 2
            told(1, 0) 1
            told(1, 1) -7
            told(1, 2) 5
            told(1, 3) 1000000000
            told(1, 4) 50
            """);
        doc.test("10", "IllegalArgument: what", """
            told(0, 5) throws.IllegalArgumentException
            set(0, 3, 7, 11, 2) 0
            told(0, -1) throws.IllegalArgumentException
            told(0, 5) throws.IllegalArgumentException
            told(0, least) throws.IllegalArgumentException
            told(0, most) throws.IllegalArgumentException
            told(1, 5) throws.IllegalArgumentException
            told(-1, -1) throws.IllegalArgumentException
            """);
        doc.test("10", "NoSuchElement: none of this number WAITS.", """
            told(0, 0) throws.NoSuchElementException
            row(1, 5) 0
            told(0, 0) throws.NoSuchElementException
            set(0, 3, 5, 4, 1) 0
            told(1, 0) throws.NoSuchElementException
            told(-1, 0) throws.NoSuchElementException
            told(least, 4) throws.NoSuchElementException
            told(most, 4) throws.NoSuchElementException
            pass(0, 5) 2
            told(0, 2) throws.NoSuchElementException
            told(1, 2) 9
            cancel(1) true
            told(1, 2) throws.NoSuchElementException
            """);
    }

    private void next() {
        doc.test("11", "The number of the first TIMER in THE ORDER that WAITS on a CLOCK", """
            9 x set(1, 0, 1, 0, 0) *
            set(0, 5, 9, 0, 0) 9
            next(0) 9
            set(0, 4, 9, 0, 0) 10
            next(0) 10
            set(0, 4, 9, 0, 0) 11
            next(0) 10
            set(0, 6, 8, 0, 0) 12
            next(0) 12
            next(1) 0
            move(9, 7) 9
            next(0) 9
            pass(0, 7) 1
            next(0) 12
            set(0, 6, 3, 0, 0) 13
            next(0) 13
            cancel(0) true
            next(1) 1
            """);
        doc.test("11", "NONE", """
            next(0) -1
            next(1) -1
            row(1, 5) 0
            next(0) -1
            set(1, 1, 5, 0, 0) 0
            next(0) -1
            next(1) 0
            cancel(0) true
            next(1) -1
            set(0, 1, 5, 0, 0) 1
            pass(0, 5) 2
            next(0) -1
            """);
        doc.test("11", "IllegalArgument.", """
            set(0, 1, 5, 0, 0) 0
            set(1, 1, 5, 0, 0) 1
            next(-1) throws.IllegalArgumentException
            next(2) throws.IllegalArgumentException
            next(least) throws.IllegalArgumentException
            next(most) throws.IllegalArgumentException
            """);
    }

    private void waiting() {
        doc.test("12", "How many TIMERS of a KEY WAIT on a CLOCK with TIMES from .. to.", """
            set(0, 1, 5, 0, 0) 0
            set(0, 1, 6, 0, 0) 1
            set(0, 1, 7, 0, 0) 2
            set(0, 2, 6, 0, 0) 3
            set(1, 1, 6, 0, 0) 4
            row(1, 6) 0
            waiting(0, 1, 5, 7) 3
            waiting(0, 1, 6, 8) 2
            waiting(0, 1, 4, 6) 2
            waiting(0, 1, 6, 6) 1
            waiting(0, 1, 8, 9) 0
            waiting(0, 1, 0, 4) 0
            waiting(0, 2, 5, 7) 1
            waiting(0, 3, 5, 7) 0
            waiting(1, 1, 5, 7) 1
            waiting(1, 2, 5, 7) 0
            waiting(0, 4294967297, 5, 7) 0
            pass(0, 6) 4
            waiting(0, 1, 5, 7) 1
            """);
        doc.test("12", "with TIMES from .. to", """
            set(0, 1, 0, 0, 0) 0
            set(0, 1, 1000000000000, 1000000000, 1) 1
            waiting(0, 1, least, most) 2
            waiting(0, 1, least, -1) 0
            waiting(0, 1, -1, 0) 1
            waiting(0, 1, least, 999999999999) 1
            waiting(0, 1, 1000000000000, most) 1
            waiting(0, 1, 1000000000001, most) 0
            waiting(0, 1, most, most) 0
            waiting(0, 1, least, least) 0
            pass(0, 1000000000000) 2
            waiting(0, 1, 1001000000000, 1001000000000) 1
            waiting(0, 1, 1001000000001, most) 0
            """);
        doc.test("12", "How many TIMERS of a KEY WAIT on a CLOCK", """
            40 x set(1, 1, 5, 0, 0) *
            waiting(1, 1, 5, 5) 40
            waiting(0, 1, 5, 5) 0
            cancel(7) true
            waiting(1, 1, 5, 5) 39
            """);
    }

    private void waitingRefused() {
        doc.test("12", "IllegalArgument: clock", """
            waiting(-1, 1, 5, 6) throws.IllegalArgumentException
            waiting(2, 1, 5, 6) throws.IllegalArgumentException
            waiting(least, 1, 5, 6) throws.IllegalArgumentException
            waiting(most, 1, 5, 6) throws.IllegalArgumentException
            waiting(2, 1, 6, 5) throws.IllegalArgumentException
            """);
        doc.test("12", "or from above to.", """
            waiting(0, 1, 6, 5) throws.IllegalArgumentException
            waiting(0, 1, 5, 5) 0
            waiting(1, 1, -1, -2) throws.IllegalArgumentException
            waiting(0, 1, 0, -1) throws.IllegalArgumentException
            waiting(0, 1, most, least) throws.IllegalArgumentException
            waiting(0, 1, 1, least) throws.IllegalArgumentException
            """);
    }
}
