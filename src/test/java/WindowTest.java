/** All windows over some waters: which CELLS they hold, the ring, the RIM, and those without a CELL that is no WALL. */
public final class WindowTest {
    private static final int MOST_CALLS = 512;

    /** What an object is told, and by which its windows are reckoned otherwise than the class does. */
    private static final class Table {
        final int[] sets = new int[96];
        final int[][] counts = new int[96][4];
        final boolean[] isWall = new boolean[96];
        private Eddyhall hall;
        private int calls = MOST_CALLS;

        /** An object with a call to spare. */
        Eddyhall one() {
            if (calls >= MOST_CALLS) {
                make();
            }
            calls++;
            return hall;
        }

        private void make() {
            hall = new Eddyhall();
            calls = 0;
            for (int cell = 0; cell < 96; cell++) {
                if (isWall[cell]) {
                    hall.wall(cell, cell % 9 == 0 ? cell / 24 : Eddyhall.NONE);
                    calls++;
                }
                for (int way = 0; way < 4; way++) {
                    tell(cell, way);
                }
            }
        }

        private void tell(int cell, int way) {
            if ((sets[cell] >> way & 1) == 1) {
                hall.particle(cell, way);
                calls++;
            }
            for (int left = counts[cell][way]; left > 0; left -= 100000) {
                hall.bring(cell, way, Math.min(left, 100000));
                calls++;
            }
        }

        long number(boolean isCounts, int what, int cell) {
            long[] of = new long[4];
            for (int way = 0; way < 4; way++) {
                of[way] = isCounts ? counts[cell][way] : sets[cell] >> way & 1;
            }
            return what == 0 ? of[0] + of[1] + of[2] + of[3] : what == 1 ? of[0] - of[2] : of[1] - of[3];
        }
    }

    /** What is reckoned of a window. */
    private static final class Sums {
        long cells;
        long sum;
        long squares;

        Sums(Table t, boolean isCounts, int what, int top, int left, int rows, int columns) {
            for (int row = top; row < top + rows; row++) {
                for (int i = left; i < left + columns; i++) {
                    int cell = 12 * row + (i > 11 ? i - 12 : i);
                    if (!t.isWall[cell]) {
                        long x = t.number(isCounts, what, cell);
                        cells++;
                        sum += x;
                        squares += x * x;
                    }
                }
            }
        }

        long average() {
            return cells == 0 ? 0 : down(100 * sum, cells);
        }

        long scatter() {
            return cells == 0 ? 0 : down(100 * (cells * squares - sum * sum), cells * cells);
        }

        private static long down(long number, long by) {
            long whole = number / by;
            return whole * by > number ? whole - 1 : whole;
        }
    }

    public static void main(String[] args) {
        allWindows("empty", new Table());
        allWindows("mixed", mixed());
        allWindows("walled", walled());
        allWindows("only WALLS", onlyWalls());
        allWindows("full", full());
        allWindows("large counts", large());
        openingsAreCells();
        aWallGone();
        roundedDown();
        noScatterOfOne();
        Due.end();
    }

    private static Table mixed() {
        Table t = new Table();
        for (int cell = 0; cell < 96; cell++) {
            int dice = (cell * 37 + cell * cell * 11) % 23;
            if (dice < 5) {
                t.isWall[cell] = true;
            } else {
                t.sets[cell] = dice < 16 ? dice : 0;
                t.counts[cell][dice % 4] = dice % 3 == 0 ? dice * cell : 0;
                t.counts[cell][dice / 4 % 4] = dice % 5;
            }
        }
        return t;
    }

    /** WALLS in the last two columns and the first two, and a row of them. */
    private static Table walled() {
        Table t = new Table();
        for (int cell = 0; cell < 96; cell++) {
            int column = cell % 12;
            t.isWall[cell] = column < 2 || column > 9 || cell / 12 == 6;
            if (!t.isWall[cell]) {
                t.sets[cell] = cell % 7 < 3 ? cell % 16 : 0;
                t.counts[cell][cell % 4] = cell % 4 * 1000;
            }
        }
        return t;
    }

    private static Table onlyWalls() {
        Table t = new Table();
        for (int cell = 0; cell < 96; cell++) {
            t.isWall[cell] = true;
        }
        return t;
    }

    private static Table full() {
        Table t = new Table();
        for (int cell = 0; cell < 96; cell++) {
            t.sets[cell] = 15;
        }
        return t;
    }

    private static Table large() {
        Table t = new Table();
        t.counts[0][3] = 499999;
        t.counts[95][0] = 500001;
        t.isWall[50] = true;
        return t;
    }

    private static void allWindows(String text, Table t) {
        for (int top = 0; top < 8; top++) {
            for (int rows = 1; top + rows <= 8; rows++) {
                for (int left = 0; left < 12; left++) {
                    for (int columns = 1; columns <= 12; columns++) {
                        String window = text + ", " + top + ", " + left + ", " + rows + ", " + columns;
                        oneWindow(window, t, top, left, rows, columns);
                        likeness(window, t, top, left, rows, columns);
                    }
                }
            }
        }
    }

    private static void oneWindow(String text, Table t, int top, int left, int rows, int columns) {
        for (int i = 0; i < 6; i++) {
            boolean isCounts = i > 2;
            int what = i % 3;
            Sums want = new Sums(t, isCounts, what, top, left, rows, columns);
            Due.is("average " + isCounts + " " + what + ": " + text, want.average(),
                    () -> t.one().average(isCounts, what, top, left, rows, columns));
            Due.is("scatter " + isCounts + " " + what + ": " + text, want.scatter(),
                    () -> t.one().scatter(isCounts, what, top, left, rows, columns));
        }
    }

    private static void likeness(String text, Table t, int top, int left, int rows, int columns) {
        Sums many = new Sums(t, false, 0, top, left, rows, columns);
        float want = 0.0f;
        if (many.sum > 0) {
            float n = many.sum;
            float f = new Sums(t, false, 1, top, left, rows, columns).sum;
            float c = many.cells;
            float speed = f / n;
            float thickness = n / c;
            want = speed * rows;
            want = want * thickness;
        }
        float due = want;
        Due.is("likeness: " + text, due, () -> t.one().likeness(top, left, rows, columns));
        // A -0.0f would be equal to 0.0f, but is another answer.
        Due.is("likeness, its sign: " + text, due < 0 ? -1 : 1,
                () -> 1.0f / t.one().likeness(top, left, rows, columns) < 0 ? -1 : 1);
    }

    /** INLETS and OUTLETS are no WALLS. */
    private static void openingsAreCells() {
        Eddyhall x = new Eddyhall();
        x.open(11, Eddyhall.INLET);
        x.open(0, Eddyhall.OUTLET);
        Due.is("empty INLET and OUTLET", 0, () -> x.average(false, 0, 0, 11, 1, 2));
        x.particle(11, 0);
        x.particle(0, 0);
        x.particle(0, 1);
        x.bring(0, 1, 7);
        Due.is("average", 150, () -> x.average(false, 0, 0, 11, 1, 2));
        Due.is("scatter", 25, () -> x.scatter(false, 0, 0, 11, 1, 2));
        Due.is("average of counts", 350, () -> x.average(true, 2, 0, 11, 1, 2));
        Due.is("likeness", 2f / 3f * 1f * (3f / 2f), () -> x.likeness(0, 11, 1, 2));
    }

    private static void aWallGone() {
        Eddyhall x = new Eddyhall();
        x.wall(95, 0);
        x.particle(84, 2);
        Due.is("with a WALL", -100, () -> x.average(false, 1, 7, 11, 1, 2));
        x.clear(95);
        Due.is("without it", -50, () -> x.average(false, 1, 7, 11, 1, 2));
        Due.is("scatter without it", 25, () -> x.scatter(false, 1, 7, 11, 1, 2));
    }

    private static void roundedDown() {
        Eddyhall x = new Eddyhall();
        x.particle(0, 2);
        x.particle(0, 3);
        x.bring(50, 2, 1);
        x.bring(50, 3, 1);
        for (int what = 1; what < 3; what++) {
            int w = what;
            Due.is("-100 / 3, what " + w, -34, () -> x.average(false, w, 0, 0, 1, 3));
            Due.is("-100 / 96, what " + w, -2, () -> x.average(false, w, 0, 0, 8, 12));
            Due.is("-100 / 96 of counts, what " + w, -2, () -> x.average(true, w, 0, 0, 8, 12));
            Due.is("100 * 2 / 9, what " + w, 22, () -> x.scatter(false, w, 0, 0, 1, 3));
            Due.is("100 * 95 / 9216, what " + w, 1, () -> x.scatter(false, w, 0, 0, 8, 12));
            Due.is("100 * 95 / 9216 of counts, what " + w, 1, () -> x.scatter(true, w, 0, 0, 8, 12));
        }
        Due.is("200 / 96", 2, () -> x.average(false, 0, 0, 0, 8, 12));
    }

    private static void noScatterOfOne() {
        Eddyhall x = new Eddyhall();
        for (int i = 0; i < 10; i++) {
            x.bring(95, 2, 100000);
        }
        Due.is("all counts in a CELL alone", 100000000, () -> x.average(true, 0, 7, 11, 1, 1));
        Due.is("all to the left", -100000000, () -> x.average(true, 1, 7, 11, 1, 1));
        Due.is("do not scatter", 0, () -> x.scatter(true, 1, 7, 11, 1, 1));
        Due.is("over two CELLS they do", 25000000000000L, () -> x.scatter(true, 1, 7, 11, 1, 2));
    }
}
