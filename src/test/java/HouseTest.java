/** Promises 6 to 9: the house as it is told. */
public final class HouseTest {
    private static final Check check = new Check();

    public static void main(String[] args) {
        NightInn x = check.told("inn minutes 9;room a creak 0;room b creak 9 cold;room c creak 5;room d creak 1;"
            + "room e creak 2;door b,a shut;door b,c locked;door d,c falls;thing k in a full;thing l in b;"
            + "dream x 1 take l then 2;dream y 0 go c then 1 met 3;dream y 1 tip k then 0;dream y 2 put then 3 met 0;"
            + "dream y 3 shut d then 2;dream x 3 wait then 1;sleeper p bed a dreams x");
        far(x);
        rooms(x);
        doors(x);
        dreams(x);
        noInn();
        check.end();
    }

    private static void far(NightInn x) {
        int[][] due = {{0, 1, 2, 3, 99}, {1, 0, 1, 2, 99}, {2, 1, 0, 1, 99}, {3, 2, 1, 0, 99}, {99, 99, 99, 99, 0}};
        for (int a = 0; a < 5; a++) {
            for (int b = 0; b < 5; b++) {
                check.plain(x, "far(" + a + ", " + b + ")", x.far(a, b), due[a][b]);
            }
        }
        check.refused(x, "far(5, 0)", x.far(5, 0), 1);
        check.refused(x, "far(0, 5)", x.far(0, 5), 1);
        check.refused(x, "far(-1, 0)", x.far(-1, 0), 1);
        check.refused(x, "far(0, -1)", x.far(0, Integer.MIN_VALUE), 1);

        NightInn ring = check.told("inn minutes 1;room a creak 0;room b creak 0;room c creak 0;room d creak 0;"
            + "room e creak 0;room f creak 0;room g creak 0;room h creak 0;door h,a;door a,b;door b,c;door c,d;"
            + "door d,e locked;door e,f;door f,g;door g,h;dream x 0 wait then 0;sleeper p bed a dreams x");
        for (int a = 0; a < 8; a++) {
            for (int b = 0; b < 8; b++) {
                int way = Math.abs(a - b);
                check.due("far in a ring", ring.far(a, b), Math.min(way, 8 - way));
            }
        }
    }

    private static void rooms(NightInn x) {
        int[] creak = {0, 9, 5, 1, 2};
        for (int r = 0; r < 5; r++) {
            check.plain(x, "room(" + r + ", 0)", x.room(r, 0), creak[r]);
            check.plain(x, "room(" + r + ", 1)", x.room(r, 1), r == 1 ? 1 : 0);
        }
        check.refused(x, "room(5, 0)", x.room(5, 0), 1);
        check.refused(x, "room(-1, 0)", x.room(-1, 0), 1);
        check.refused(x, "room(0, 2)", x.room(0, 2), 1);
        check.refused(x, "room(0, -1)", x.room(0, -1), 1);
    }

    private static void doors(NightInn x) {
        check.plain(x, "door(0, 1)", x.door(0, 1), 0);
        check.plain(x, "door(1, 0)", x.door(1, 0), 0);
        check.plain(x, "door(2, 1)", x.door(2, 1), 1);
        check.plain(x, "door(2, 3)", x.door(2, 3), 2);
        check.plain(x, "door(0, 2)", x.door(0, 2), -2);
        check.plain(x, "door(4, 0)", x.door(4, 0), -2);
        check.refused(x, "door(1, 1)", x.door(1, 1), 1);
        check.refused(x, "door(5, 1)", x.door(5, 1), 1);
        check.refused(x, "door(1, 5)", x.door(1, 5), 1);
        check.refused(x, "door(-1, 1)", x.door(-1, 1), 1);
        check.refused(x, "door(1, -1)", x.door(1, -1), 1);
    }

    private static void dreams(NightInn x) {
        int[][] due = {{0, 1, 1, 1, 2, -2}, {0, 3, 4, -2, 1, -2}, {1, 0, 0, 2, 1, 3}, {1, 1, 3, 0, 0, -2},
            {1, 2, 2, -2, 3, 0}, {1, 3, 5, 3, 2, -2}};
        for (int[] row : due) {
            for (int what = 0; what < 4; what++) {
                check.plain(x, "dream(" + row[0] + ", " + row[1] + ", " + what + ")",
                    x.dream(row[0], row[1], what), row[2 + what]);
            }
        }
        check.refused(x, "dream(0, 0, 0)", x.dream(0, 0, 0), 6);
        check.refused(x, "dream(0, 2, 3)", x.dream(0, 2, 3), 6);
        check.refused(x, "dream(0, 0, 4)", x.dream(0, 0, 4), 1);
        check.refused(x, "dream(2, 0, 0)", x.dream(2, 0, 0), 1);
        check.refused(x, "dream(-1, 0, 0)", x.dream(-1, 0, 0), 1);
        check.refused(x, "dream(1, 4, 0)", x.dream(1, 4, 0), 1);
        check.refused(x, "dream(1, -1, 0)", x.dream(1, -1, 0), 1);
        check.refused(x, "dream(1, 0, 4)", x.dream(1, 0, 4), 1);
        check.refused(x, "dream(1, 0, -1)", x.dream(1, 0, -1), 1);
    }

    private static void noInn() {
        NightInn x = new NightInn();
        check.refused(x, "far without an inn", x.far(0, 0), 1);
        check.refused(x, "room without an inn", x.room(0, 0), 1);
        check.refused(x, "door without an inn", x.door(0, 1), 1);
        check.refused(x, "dream without an inn", x.dream(0, 0, 0), 1);
    }
}
