/** Each promise of the document by itself: what is ordinary, the edges it names, and wrong inputs. */
public final class PromisesTest {
    private PromisesTest() {
    }

    public static void main(String[] args) {
        newObject();
        clear();
        set();
        move();
        cancel();
        row();
        first();
        pass();
        passOrder();
        passSetsAgain();
        done();
        told();
        next();
        waiting();
        keep();
        back();
        forget();
        task();
        load();
        of();
        now();
        Script.end();
    }

    private static void newObject() {
        Script.run("1 new object", """
            of(0) 0
            of(1) 0
            of(2) 0
            of(3) 0
            of(4) 0
            of(5) 0
            of(6) 0
            now(0) -1
            now(1) -1
            next(0) -1
            next(1) -1
            load(0, 1) 0
            done(0, 0) throws.NoSuchElementException
            told(0, 0) throws.NoSuchElementException
            back(0) throws.IllegalArgumentException
            forget() throws.IllegalStateException
            first(true) true
            """);
    }

    private static void clear() {
        Script.run("2 clear", """
            clear() 0
            set(0, 1, 5, 2, 1) 0
            set(1, 2, 50, 0, 0) 1
            row(3, 4) 0
            row(3, 40) 1
            keep() 0
            keep() 1
            pass(0, 5) 2
            pass(1, 7) 0
            pass(0, 5) 0
            pass(0, 7) 1
            row(3, 5) -1
            first(false) true
            set(0, 1, 9, 0, 0) 3
            clear() 3
            of(0) 0
            of(1) 0
            of(2) 0
            of(3) 0
            of(4) 0
            of(5) 0
            of(6) 0
            now(0) -1
            now(1) -1
            next(0) -1
            next(1) -1
            load(0, 1) 0
            done(0, 0) throws.NoSuchElementException
            told(1, 0) throws.NoSuchElementException
            back(0) throws.IllegalArgumentException
            forget() throws.IllegalStateException
            first(true) true
            row(1, 0) 0
            set(1, 1, 0, 0, 0) 0
            keep() 0
            clear() 2
            clear() 0
            """);
    }

    private static void set() {
        Script.run("3 set", """
            set(0, 5, 10, 3, 2) 0
            set(1, -9223372036854775808, 1000000000000, 1000000000, 50) 1
            set(0, 9223372036854775807, 0, 0, 0) 2
            told(1, 1) -9223372036854775808
            told(2, 1) 9223372036854775807
            set(-1, 0, 0, 0, 0) throws.IllegalArgumentException
            set(2, 0, 0, 0, 0) throws.IllegalArgumentException
            set(2147483647, 0, 0, 0, 0) throws.IllegalArgumentException
            set(-2147483648, 0, 0, 0, 0) throws.IllegalArgumentException
            set(0, 0, -1, 0, 0) throws.IllegalArgumentException
            set(0, 0, 1000000000001, 0, 0) throws.IllegalArgumentException
            set(0, 0, -9223372036854775808, 0, 0) throws.IllegalArgumentException
            set(0, 0, 0, -1, 0) throws.IllegalArgumentException
            set(0, 0, 0, 1000000001, 0) throws.IllegalArgumentException
            set(0, 0, 0, 9223372036854775807, 0) throws.IllegalArgumentException
            set(0, 0, 0, 0, -1) throws.IllegalArgumentException
            set(0, 0, 0, 0, 51) throws.IllegalArgumentException
            of(2) 3
            of(0) 3
            """);
        Script.run("3 set, not above now", """
            pass(0, 10) 0
            set(0, 1, 10, 0, 0) 0
            set(0, 1, 3, 0, 0) 1
            of(0) 2
            next(0) 1
            of(6) 0
            pass(0, 10) 2
            """);
        Script.run("3 set, 40 wait", """
            20 x set(0, 1, 5, 0, 0) *
            19 x set(1, 1, 5, 0, 0) *
            set(0, 1, 5, 0, 0) 39
            set(0, 1, 5, 0, 0) throws.IllegalStateException
            set(1, 1, 5, 0, 0) throws.IllegalStateException
            set(2, 1, 5, 0, 0) throws.IllegalArgumentException
            set(0, 1, -5, 0, 0) throws.IllegalArgumentException
            set(0, 1, 5, -1, 0) throws.IllegalArgumentException
            set(0, 1, 5, 0, 51) throws.IllegalArgumentException
            40 x row(1, 5) *
            cancel(7) true
            set(1, 1, 5, 0, 0) 40
            set(1, 1, 5, 0, 0) throws.IllegalStateException
            """);
    }

    private static void move() {
        Script.run("4 move", """
            set(0, 1, 20, 7, 3) 0
            set(0, 1, 5, 0, 0) 1
            set(0, 2, 5, 0, 0) 2
            set(1, 2, 5, 0, 0) 3
            move(0, 1) 20
            next(0) 0
            move(0, 5) 1
            next(0) 0
            move(0, 1000000000000) 5
            told(0, 2) 1000000000000
            told(0, 0) 0
            told(0, 1) 1
            told(0, 3) 7
            told(0, 4) 3
            next(0) 1
            move(1, 0) 5
            move(1, 5) 0
            move(2, 5) 5
            next(0) 1
            move(0, -1) throws.IllegalArgumentException
            move(0, 1000000000001) throws.IllegalArgumentException
            move(4, 5) throws.NoSuchElementException
            move(-1, 5) throws.NoSuchElementException
            move(-2147483648, 5) throws.NoSuchElementException
            move(2147483647, 5) throws.NoSuchElementException
            move(4, -1) throws.IllegalArgumentException
            of(2) 4
            of(0) 4
            pass(0, 30) 2
            move(1, 5) throws.NoSuchElementException
            move(0, 30) 1000000000000
            told(0, 2) 30
            pass(0, 30) 1
            told(4, 2) 37
            cancel(4) true
            move(4, 5) throws.NoSuchElementException
            """);
    }

    private static void cancel() {
        Script.run("5 cancel", """
            cancel(0) false
            set(0, 1, 20, 1, 4) 0
            set(1, 1, 5, 0, 0) 1
            set(1, 1, 6, 0, 0) 2
            cancel(1) true
            cancel(1) false
            cancel(-1) false
            cancel(3) false
            cancel(2147483647) false
            cancel(-2147483648) false
            of(0) 2
            of(2) 3
            next(1) 2
            pass(0, 20) 1
            cancel(0) false
            cancel(3) true
            pass(0, 25) 0
            set(0, 1, 30, 0, 0) 4
            row(1, 40) 0
            cancel(0) false
            of(1) 1
            """);
    }

    private static void row() {
        Script.run("6 row", """
            row(7, 0) 0
            row(-9223372036854775808, 1000000000000) 1
            row(7, -1) throws.IllegalArgumentException
            row(7, 1000000000001) throws.IllegalArgumentException
            pass(1, 100) 0
            row(7, 5) 2
            pass(0, 10) 2
            row(7, 10) -1
            row(7, 0) -1
            row(7, 11) 3
            row(7, -1) throws.IllegalArgumentException
            of(4) 2
            of(3) 4
            of(1) 2
            pass(0, 11) 1
            done(0, 1) 3
            """);
        Script.run("6 row, 40 wait", """
            pass(0, 10) 0
            39 x row(1, 20) *
            row(1, 20) 39
            row(1, 20) throws.IllegalStateException
            row(1, 11) throws.IllegalStateException
            row(1, -1) throws.IllegalArgumentException
            row(1, 1000000000001) throws.IllegalArgumentException
            row(1, 10) -1
            of(4) 1
            of(3) 40
            40 x set(0, 1, 20, 0, 0) *
            pass(0, 20) 80
            row(1, 21) 40
            """);
    }

    private static void first() {
        Script.run("7 first", """
            first(true) true
            first(false) true
            first(false) false
            first(true) false
            first(true) true
            row(9, 5) 0
            set(0, 1, 5, 0, 0) 0
            pass(0, 5) 2
            done(0, 0) 0
            done(1, 0) 1
            row(1, 6) 1
            set(0, 9, 6, 0, 0) 1
            row(1, 7) 2
            set(0, 9, 8, 0, 0) 2
            first(false) true
            pass(0, 8) 4
            done(0, 0) 1
            done(1, 0) 0
            done(2, 0) 0
            done(3, 0) 1
            """);
    }

    private static void pass() {
        Script.run("8 pass", """
            pass(0, 0) 0
            now(0) 0
            now(1) -1
            pass(0, 0) 0
            pass(0, -1) throws.IllegalArgumentException
            pass(1, -1) throws.IllegalArgumentException
            pass(1, 1000000000001) throws.IllegalArgumentException
            pass(2, 5) throws.IllegalArgumentException
            pass(-1, 5) throws.IllegalArgumentException
            set(0, 1, 5, 0, 0) 0
            set(1, 1, 5, 0, 0) 1
            row(1, 5) 0
            pass(0, 4) 0
            pass(1, 5) 1
            done(0, 1) 1
            pass(0, 3) throws.IllegalArgumentException
            of(6) 1
            pass(0, 5) 2
            pass(0, 5) 0
            of(6) 0
            pass(0, 1000000000000) 0
            now(0) 1000000000000
            pass(0, 999999999999) throws.IllegalArgumentException
            pass(0, 1000000000000) 0
            pass(1, 4) throws.IllegalArgumentException
            now(1) 5
            """);
        Script.run("8 pass, rows are of events alone", """
            row(1, 5) 0
            pass(1, 100) 0
            of(1) 1
            pass(0, 100) 1
            """);
    }

    private static void passOrder() {
        Script.run("8 pass, THE ORDER", """
            set(0, 5, 10, 0, 0) 0
            set(0, -5, 10, 0, 0) 1
            set(0, 5, 10, 0, 0) 2
            set(0, 100, 9, 0, 0) 3
            set(0, -9223372036854775808, 10, 0, 0) 4
            set(0, 9223372036854775807, 10, 0, 0) 5
            row(5, 10) 0
            row(-5, 10) 1
            row(5, 10) 2
            row(100, 9) 3
            row(6, 8) 4
            set(1, 0, 0, 0, 0) 6
            pass(0, 10) 11
            done(0, 0) 0
            done(0, 1) 4
            done(1, 0) 0
            done(1, 1) 3
            done(2, 0) 1
            done(2, 1) 3
            done(3, 0) 0
            done(3, 1) 1
            done(4, 1) 0
            done(5, 1) 2
            done(5, 0) 0
            done(6, 0) 1
            done(6, 1) 4
            done(7, 1) 1
            done(8, 1) 0
            done(9, 1) 2
            done(10, 1) 5
            of(0) 1
            """);
    }

    private static void passSetsAgain() {
        Script.run("8 pass sets again", """
            set(0, 2, 10, 5, 2) 0
            set(0, 1, 10, 10, 1) 1
            row(0, 20) 0
            first(false) true
            pass(0, 20) 6
            done(0, 1) 1
            done(1, 1) 0
            done(2, 1) 3
            done(2, 3) 15
            done(2, 4) 1
            done(3, 1) 2
            done(4, 1) 4
            done(4, 4) 0
            done(5, 0) 0
            of(2) 5
            of(0) 0
            """);
        Script.run("8 pass sets again, with rows of the same time", """
            set(0, 2, 10, 0, 1) 0
            row(7, 10) 0
            first(false) true
            pass(0, 10) 3
            done(0, 0) 1
            done(1, 0) 1
            done(1, 1) 1
            done(2, 0) 0
            """);
        Script.run("8 pass sets again above the last time", """
            set(1, 2, 1000000000000, 1000000000, 2) 0
            pass(1, 1000000000000) 1
            told(1, 2) 1001000000000
            told(1, 3) 1000000000
            told(1, 4) 1
            waiting(1, 2, 1001000000000, 1001000000000) 1
            pass(1, 1000000000000) 0
            move(1, 5) 1001000000000
            pass(1, 1000000000000) 2
            done(1, 1) 2
            done(1, 3) 1000000005
            done(1, 4) 0
            """);
        Script.run("8 the longest pass", """
            40 x set(0, 1, 0, 0, 50) *
            40 x row(1, 0) *
            set(0, 1, 0, 0, 50) throws.IllegalStateException
            pass(0, 0) 2080
            of(6) 2080
            of(2) 2040
            of(0) 0
            done(0, 0) 0
            done(39, 1) 39
            done(40, 1) 0
            done(40, 4) 50
            done(80, 1) 40
            done(80, 4) 49
            done(2079, 1) 2039
            done(2079, 4) 0
            done(2080, 1) throws.NoSuchElementException
            """);
        Script.run("8 pass with 40 waiting that are set again", """
            40 x set(1, 1, 3, 10, 1) *
            pass(1, 3) 40
            of(0) 40
            set(1, 1, 3, 10, 1) throws.IllegalStateException
            next(1) 40
            pass(1, 13) 40
            of(0) 0
            """);
    }

    private static void done() {
        Script.run("9 done", """
            done(0, -1) throws.IllegalArgumentException
            done(0, 5) throws.IllegalArgumentException
            done(0, 0) throws.NoSuchElementException
            row(-8, 4) 0
            set(0, -7, 5, 2, 9) 0
            pass(0, 6) 2
            done(0, 0) 0
            done(0, 1) 0
            done(0, 2) -8
            done(0, 3) 4
            done(0, 4) 0
            done(1, 0) 1
            done(1, 1) 0
            done(1, 2) -7
            done(1, 3) 5
            done(1, 4) 9
            done(2, 0) throws.NoSuchElementException
            done(-1, 0) throws.NoSuchElementException
            done(-2147483648, 0) throws.NoSuchElementException
            done(2147483647, 0) throws.NoSuchElementException
            done(2, 5) throws.IllegalArgumentException
            done(1, 5) throws.IllegalArgumentException
            done(1, -1) throws.IllegalArgumentException
            set(1, 3, 5, 2, 9) 2
            cancel(1) true
            done(1, 1) 0
            pass(1, 5) 1
            done(0, 2) 3
            done(1, 0) throws.NoSuchElementException
            pass(1, 5) 0
            done(0, 0) throws.NoSuchElementException
            """);
    }

    private static void told() {
        Script.run("10 told", """
            set(1, -7, 5, 2, 9) 0
            set(0, 8, 6, 0, 0) 1
            told(0, 0) 1
            told(0, 1) -7
            told(0, 2) 5
            told(0, 3) 2
            told(0, 4) 9
            told(1, 0) 0
            told(1, 1) 8
            told(1, 2) 6
            told(1, 3) 0
            told(1, 4) 0
            told(0, -1) throws.IllegalArgumentException
            told(0, 5) throws.IllegalArgumentException
            told(2, 5) throws.IllegalArgumentException
            told(2, 0) throws.NoSuchElementException
            told(-1, 0) throws.NoSuchElementException
            told(-1, -1) throws.IllegalArgumentException
            told(2147483647, 0) throws.NoSuchElementException
            pass(1, 5) 1
            told(0, 0) throws.NoSuchElementException
            told(2, 0) 1
            told(2, 1) -7
            told(2, 2) 7
            told(2, 3) 2
            told(2, 4) 8
            """);
    }

    private static void next() {
        Script.run("11 next", """
            next(0) -1
            next(-1) throws.IllegalArgumentException
            next(2) throws.IllegalArgumentException
            row(1, 1) 0
            next(0) -1
            set(1, 1, 3, 0, 0) 0
            next(0) -1
            next(1) 0
            set(0, 5, 9, 0, 0) 1
            set(0, 4, 9, 0, 0) 2
            set(0, 4, 9, 0, 0) 3
            next(0) 2
            set(0, 9, 8, 0, 0) 4
            next(0) 4
            cancel(4) true
            cancel(2) true
            next(0) 3
            cancel(3) true
            next(0) 1
            next(1) 0
            """);
    }

    private static void waiting() {
        Script.run("12 waiting", """
            set(0, 1, 5, 0, 0) 0
            set(0, 1, 6, 0, 0) 1
            set(0, 1, 7, 0, 0) 2
            set(0, 2, 6, 0, 0) 3
            set(1, 1, 6, 0, 0) 4
            row(1, 6) 0
            waiting(0, 1, 5, 7) 3
            waiting(0, 1, 6, 7) 2
            waiting(0, 1, 5, 6) 2
            waiting(0, 1, 6, 6) 1
            waiting(0, 1, 8, 9) 0
            waiting(0, 2, 0, 10) 1
            waiting(0, 3, 0, 10) 0
            waiting(1, 1, 0, 10) 1
            waiting(1, 1, 7, 10) 0
            waiting(0, 1, -9223372036854775808, 9223372036854775807) 3
            waiting(0, 1, -9223372036854775808, -1) 0
            waiting(0, 1, 9223372036854775807, 9223372036854775807) 0
            waiting(0, 1, 6, 5) throws.IllegalArgumentException
            waiting(0, 1, 9223372036854775807, -9223372036854775808) throws.IllegalArgumentException
            waiting(-1, 1, 5, 6) throws.IllegalArgumentException
            waiting(2, 1, 5, 6) throws.IllegalArgumentException
            pass(0, 6) 4
            waiting(0, 1, 0, 10) 1
            """);
    }

    private static void keep() {
        Script.run("13 keep", """
            keep() 0
            of(5) 1
            keep() 1
            keep() 2
            of(5) 3
            keep() throws.IllegalStateException
            of(5) 3
            forget() 2
            keep() 2
            keep() throws.IllegalStateException
            back(1) 0
            of(5) 3
            keep() throws.IllegalStateException
            clear() 0
            keep() 0
            """);
    }

    private static void back() {
        Script.run("14 back", """
            set(0, 1, 5, 2, 3) 0
            set(1, 2, 6, 0, 0) 1
            row(3, 4) 0
            row(4, 9) 1
            pass(1, 2) 0
            pass(0, 3) 0
            row(1, 2) -1
            first(false) true
            keep() 0
            pass(0, 7) 3
            move(1, 8) 6
            row(3, 4) -1
            row(3, 40) 2
            first(true) false
            pass(1, 7) 0
            pass(0, 9) 2
            keep() 1
            back(0) 2
            of(6) 2
            done(0, 0) 0
            done(1, 1) 3
            of(0) 2
            of(1) 2
            of(2) 2
            of(3) 2
            of(4) 1
            of(5) 2
            now(0) 3
            now(1) 2
            told(0, 2) 5
            told(0, 4) 3
            told(1, 2) 6
            first(false) false
            load(3, 128) 1
            load(4, 128) 1
            set(0, 1, 50, 0, 0) 2
            row(3, 50) 2
            back(1) 2
            of(2) 5
            of(3) 3
            of(4) 2
            now(0) 9
            now(1) 7
            told(1, 2) 8
            told(4, 2) 11
            first(true) true
            back(2) throws.IllegalArgumentException
            back(-1) throws.IllegalArgumentException
            back(2147483647) throws.IllegalArgumentException
            back(-2147483648) throws.IllegalArgumentException
            back(0) 2
            back(0) 2
            pass(0, 5) 2
            done(0, 2) 3
            done(1, 2) 1
            of(5) 2
            """);
        Script.run("14 back, what is kept stays so", """
            set(0, 1, 5, 0, 3) 0
            row(1, 6) 0
            keep() 0
            pass(0, 5) 4
            back(0) 1
            move(0, 6) 5
            cancel(0) true
            set(0, 8, 1, 1, 1) 1
            back(0) 1
            told(0, 1) 1
            told(0, 2) 5
            told(0, 4) 3
            of(1) 1
            of(2) 1
            keep() 1
            cancel(0) true
            back(1) 1
            clear() 2
            back(0) throws.IllegalArgumentException
            """);
    }

    private static void forget() {
        Script.run("15 forget", """
            forget() throws.IllegalStateException
            keep() 0
            set(0, 1, 5, 0, 0) 0
            keep() 1
            set(0, 1, 6, 0, 0) 1
            keep() 2
            forget() 2
            back(2) throws.IllegalArgumentException
            of(5) 2
            of(0) 2
            back(1) 1
            forget() 1
            back(1) throws.IllegalArgumentException
            back(0) 0
            set(0, 9, 7, 0, 0) 0
            set(0, 9, 7, 0, 0) 1
            set(0, 9, 7, 0, 0) 2
            keep() 1
            clear() 3
            keep() 0
            back(1) throws.IllegalArgumentException
            forget() 0
            forget() throws.IllegalStateException
            """);
    }

    private static void task() {
        Script.run("16 task", """
            task(0, 1) 0
            task(127, 1) 0
            task(127, 128) 127
            task(128, 128) 0
            task(-1, 128) 127
            task(-128, 128) 0
            task(-129, 128) 127
            task(63, 2) 0
            task(64, 2) 1
            task(42, 3) 0
            task(43, 3) 1
            task(85, 3) 1
            task(86, 3) 2
            task(9223372036854775807, 128) 127
            task(-9223372036854775808, 128) 0
            task(0, 0) throws.IllegalArgumentException
            task(0, -1) throws.IllegalArgumentException
            task(0, 129) throws.IllegalArgumentException
            task(0, 2147483647) throws.IllegalArgumentException
            task(0, -2147483648) throws.IllegalArgumentException
            """);
    }

    private static void load() {
        Script.run("17 load", """
            set(0, 42, 5, 0, 0) 0
            set(1, 43, 5, 0, 0) 1
            set(1, -1, 5, 1, 1) 2
            row(42, 5) 0
            row(86, 6) 1
            row(128, 6) 2
            load(0, 1) 6
            load(0, 3) 3
            load(1, 3) 1
            load(2, 3) 2
            load(42, 128) 2
            load(127, 128) 1
            load(0, 128) 1
            load(1, 128) 0
            load(-1, 3) throws.IllegalArgumentException
            load(3, 3) throws.IllegalArgumentException
            load(0, 0) throws.IllegalArgumentException
            load(0, 129) throws.IllegalArgumentException
            load(128, 128) throws.IllegalArgumentException
            load(0, -1) throws.IllegalArgumentException
            load(-1, -1) throws.IllegalArgumentException
            pass(0, 5) 2
            load(0, 3) 1
            pass(1, 5) 2
            load(2, 3) 2
            load(0, 1) 3
            """);
    }

    private static void of() {
        Script.run("18 of", """
            set(0, 1, 5, 1, 1) 0
            set(1, 1, 50, 0, 0) 1
            row(1, 5) 0
            row(1, 60) 1
            row(1, 61) 2
            of(0) 2
            of(1) 3
            of(2) 2
            of(3) 3
            of(4) 0
            of(5) 0
            of(6) 0
            pass(0, 5) 2
            row(1, 5) -1
            row(1, 4) -1
            keep() 0
            of(0) 2
            of(1) 2
            of(2) 3
            of(3) 3
            of(4) 2
            of(5) 1
            of(6) 2
            of(-1) throws.IllegalArgumentException
            of(7) throws.IllegalArgumentException
            of(2147483647) throws.IllegalArgumentException
            of(-2147483648) throws.IllegalArgumentException
            """);
    }

    private static void now() {
        Script.run("19 now", """
            now(0) -1
            now(1) -1
            pass(1, 7) 0
            now(0) -1
            now(1) 7
            pass(0, 3) 0
            now(0) 3
            now(1) 7
            pass(0, 2) throws.IllegalArgumentException
            now(0) 3
            now(-1) throws.IllegalArgumentException
            now(2) throws.IllegalArgumentException
            now(2147483647) throws.IllegalArgumentException
            """);
    }
}
