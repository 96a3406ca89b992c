public final class ReadmeExample {
    private static final String TEXT = "inn minutes 6; room hall creak 0; room stair creak 3; room attic creak 5 cold;"
        + " door hall, stair; door stair, attic shut falls; thing cup in stair full;"
        + " dream thirst 0 go stair then 1; dream thirst 1 tip cup then 2; dream climb 0 go attic then 0;"
        + " sleeper ann bed hall dreams thirst; sleeper bob bed hall dreams climb; listens hall";

    public static void main(String[] args) {
        NightInn x = new NightInn();
        feed(x, TEXT);
        say("sleepers", x.inn(TEXT.length()));

        // A night, minute by minute. Rooms, doors, sleepers and so on are numbered from 0, in the order they are told.
        x.minutes(1);
        say("ann's room after a minute", x.sleeper(0, 0));
        say("minutes up to the morning", x.morning());
        say("bob is awake in the cold", x.sleeper(1, 3));
        say("the cup is full", x.thing(0, 1));
        say("the attic's door is shut", x.doorway(1, 0));
        say("heard from the hall in minute 2", x.heard(0, 2));

        // Another night, with other dreams and with door 0 locked at nightfall (setting 2 and 2 times the door).
        x.dreams(0, 1);
        x.nightfall(2);
        x.morning();
        say("ann's room behind a locked door", x.sleeper(0, 0));

        // Notes in two books, and by whose dreams all of them can be.
        x.noteHeard(0, 0, 2, true);
        x.noteThing(1, 0, 1);
        say("casts that fit by both books", x.fits(3));
        say("verdict", x.verdict());
        say("the setting by which most is told", x.best());
        say("doors to lock so that none comes to the attic", x.safe(2));
        say("these doors, as bits", x.safely(2));

        // Calls that are refused.
        say("how far it is to room 9", x.far(0, 9));
        say("  trouble", x.trouble());
        say("41 minutes", x.minutes(41));
        say("  trouble", x.trouble());
        say("a minute more of a night that is over", x.minutes(1));
        say("  trouble", x.trouble());
        x.mark();
        x.mark();
        x.mark();
        say("a fourth mark", x.mark());
        say("  trouble", x.trouble());
        feed(x, "inn minutes 99");
        say("an inn of 99 minutes", x.inn(14));
        say("  trouble", x.trouble());
        say("  fault", x.fault());
        say("  place", x.where());
        say("sleepers of the inn that stays", x.size(4));
    }

    /** Twenty bytes come by each feed, four in each number, the highest first; blanks fill up the last. */
    private static void feed(NightInn x, String text) {
        for (int i = 0; i < text.length(); i += 20) {
            x.feed(four(text, i), four(text, i + 4), four(text, i + 8), four(text, i + 12), four(text, i + 16));
        }
    }

    private static int four(String text, int from) {
        int number = 0;
        for (int i = from; i < from + 4; i++) {
            number = number << 8 | (i < text.length() ? text.charAt(i) : ' ');
        }
        return number;
    }

    private static void say(String what, int number) {
        System.out.println(what + ": " + number);
    }
}
