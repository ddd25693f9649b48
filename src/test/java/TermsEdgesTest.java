/** The boundaries that the document names under "Terms", each with the sentence that names it. */
public final class TermsEdgesTest {
    private static final int STEPS = 60;

    public static void main(String[] args) {
        theDayEndsBehindTheMinute719();
        behindTheDaysEndNothingGoesBy();
        theStreetHasTheSteps0To59();
        whoIsGoneStaysGone();
        passersByAreAtMost10();
        passersByKeepTheirNumbers();
        lightIs50WithoutCloudsAtFirst();
        eachHourHasItsLightFromItsFirstToItsLastMinute();
        lightIsTakenByClouds();
        roomsAreAtMost8();
        noTwoHolesAreAtTheSameStep();
        roomsBeginWithAHoleOf3WhiteAndEmpty();
        seatsHoldAsManyPeopleAtMost();
        wallsReach4TimesTheDepth();
        brightnessIsCutFromTheLeftToTheRight();
        brightnessOf5IsSeenWell();
        blurOfTheTallnessIsSeenWell();
        aMinuteWithEachShowAndEachNumberOfPeople();
        Check.end();
    }

    /** "Time is told in minutes of a day, from 0 to 720" */
    private static void theDayEndsBehindTheMinute719() {
        PinholeHouse house = new PinholeHouse();
        expectMinute(house, 0, 0, 50);
        house.go(1);
        expectMinute(house, 1, 0, 50);
        house.go(717);
        expectMinute(house, 718, 0, 50);
        house.go(1);
        expectMinute(house, 719, 0, 50);
        house.go(1);
        expectMinute(house, 720, 1, 0);
        house.go(1);
        expectMinute(house, 720, 1, 0);
        house.go(720);
        expectMinute(house, 720, 1, 0);
    }

    private static void expectMinute(PinholeHouse house, int minute, int over, int light) {
        Check.due(minute, house.count(0));
        Check.due(over, house.count(8));
        Check.due(light, house.count(1));
    }

    /** "behind the minute 719 the day is over, and nothing goes by any more" */
    private static void behindTheDaysEndNothingGoesBy() {
        PinholeHouse house = new PinholeHouse();
        house.addRoom(10, 2, 5);
        house.addRoom(40, 2, 5);
        house.go(719);
        house.seat(0, 4);
        house.seat(1, 4);
        house.pass(10, 1, 9, 9);
        house.pass(0, -1, 9, 9);
        Check.due(4, house.go(720));
        long[] atTheEnd = {4, 3, 4, 11, -1};
        expectAtTheEnd(house, atTheEnd);
        house.pass(59, 3, 9, 9);
        for (int minutes : new int[] {1, 719, 720}) {
            Check.due(0, house.go(minutes));
            expectAtTheEnd(house, atTheEnd);
            Check.due(59, house.passer(2, 0));
        }
    }

    /** Told are the pence, the people of both rooms, and the steps of two passers-by. */
    private static void expectAtTheEnd(PinholeHouse house, long[] want) {
        Check.due(want[0], house.count(7));
        Check.due(want[1], house.room(1, 5));
        Check.due(want[2], house.room(0, 5));
        Check.due(want[3], house.passer(0, 0));
        Check.due(want[4], house.passer(1, 0));
    }

    /** "It is 60 steps long, 0 to 59"; "one who would come below 0 or above 59 is gone" */
    private static void theStreetHasTheSteps0To59() {
        for (int step = 0; step < STEPS; step++) {
            PinholeHouse house = new PinholeHouse();
            for (int pace = -3; pace <= 3; pace++) {
                house.pass(step, pace, 1, 1);
            }
            house.go(1);
            int gone = 0;
            for (int pace = -3; pace <= 3; pace++) {
                int next = step + pace;
                boolean stays = next >= 0 && next < STEPS;
                gone += stays ? 0 : 1;
                Check.due(step + " with pace " + pace, stays ? next : -1, house.passer(pace + 3, 0));
            }
            Check.due("those who are gone from " + step, gone, house.count(3));
        }
    }

    /** "each is at a step, or gone" */
    private static void whoIsGoneStaysGone() {
        for (int pace = -3; pace <= 3; pace++) {
            if (pace != 0) {
                expectGoneForGood(pace);
            }
        }
    }

    private static void expectGoneForGood(int pace) {
        PinholeHouse house = new PinholeHouse();
        house.addRoom(0, 9, 1);
        house.addRoom(59, 9, 1);
        house.pass(pace < 0 ? 0 : 59, pace, 9, 9);
        for (int minute = 1; minute <= 30; minute++) {
            house.go(1);
            Check.due("step with pace " + pace, -1, house.passer(0, 0));
            Check.due("gone with pace " + pace, 1, house.count(3));
            Check.due("shows with pace " + pace, 0, house.count(6));
            Check.due("seen with pace " + pace, 0, house.seen(0));
            Check.due("pace with pace " + pace, pace, house.passer(0, 1));
            for (int room = 0; room < 2; room++) {
                Check.due("brightness with pace " + pace, -1, house.bright(room, 0));
                Check.due("wall with pace " + pace, 0, house.wall(room, 1 - 2 * room));
            }
        }
        house.go(720);
        Check.due(-1, house.passer(0, 0));
    }

    /** "Passers-by are at most 10, numbered from 0 in the order of their coming" */
    private static void passersByAreAtMost10() {
        PinholeHouse house = new PinholeHouse();
        for (int number = 0; number < 10; number++) {
            Check.due(number, house.count(2));
            Check.due(number, house.pass(5 * number, 0, 1 + number % 9, 9 - number % 9));
        }
        Check.thrown(Check.STATE, house, () -> house.pass(0, 0, 1, 1));
        Check.due(10, house.count(2));
        for (int number = 0; number < 10; number++) {
            Check.due(5 * number, house.passer(number, 0));
            Check.due(1 + number % 9, house.passer(number, 2));
            Check.due(9 - number % 9, house.passer(number, 3));
        }
    }

    /** The same, when some or all of them are gone: a number once given is not given again. */
    private static void passersByKeepTheirNumbers() {
        PinholeHouse house = new PinholeHouse();
        Check.due(0, house.pass(0, -1, 1, 1));
        house.go(1);
        Check.due(1, house.pass(7, 0, 2, 2));
        Check.due(-1, house.passer(0, 0));
        for (int number = 2; number < 10; number++) {
            Check.due(number, house.pass(59, 1, 1, 1));
        }
        Check.thrown(Check.STATE, house, () -> house.pass(0, 0, 1, 1));
        house.go(1);
        Check.due(9, house.count(3));
        Check.due(10, house.count(2));
        Check.thrown(Check.STATE, house, () -> house.pass(0, 0, 1, 1));
        house.go(720);
        Check.thrown(Check.STATE, house, () -> house.pass(0, 0, 1, 1));
    }

    /** "light, 0 to 100 (50, at first), and clouds, 0 to 9 (0, at first)" */
    private static void lightIs50WithoutCloudsAtFirst() {
        PinholeHouse house = new PinholeHouse();
        for (int hour = 0; hour < 12; hour++) {
            Check.due(60 * hour, house.count(0));
            Check.due("first minute of hour " + hour, 50, house.count(1));
            house.go(59);
            Check.due("last minute of hour " + hour, 50, house.count(1));
            house.go(1);
        }
        for (int hour = 0; hour < 12; hour++) {
            Check.due("hour " + hour, 500, house.setLight(hour, 0, 0));
        }
    }

    /** "of the hour minute / 60 (0, if the day is over)" */
    private static void eachHourHasItsLightFromItsFirstToItsLastMinute() {
        PinholeHouse house = new PinholeHouse();
        for (int hour = 0; hour < 12; hour++) {
            house.setLight(hour, 100 - hour, 0);
        }
        for (int hour = 0; hour < 12; hour++) {
            for (int minute : new int[] {0, 1, 58, 59}) {
                int missing = 60 * hour + minute - house.count(0);
                if (missing > 0) {
                    house.go(missing);
                }
                Check.due("minute " + minute + " of hour " + hour, 100 - hour, house.count(1));
            }
        }
        house.go(1);
        Check.due(0, house.count(1));
        house.setLight(0, 100, 0);
        house.setLight(11, 100, 0);
        Check.due(0, house.count(1));
    }

    /** "light * (10 - clouds) / 10" */
    private static void lightIsTakenByClouds() {
        for (int light = 0; light <= 100; light++) {
            PinholeHouse house = new PinholeHouse();
            for (int clouds = 0; clouds <= 9; clouds++) {
                house.setLight(0, light, clouds);
                Check.due(light + " with clouds " + clouds, light * (10 - clouds) / 10, house.count(1));
            }
        }
    }

    /** "There are at most 8, numbered likewise" */
    private static void roomsAreAtMost8() {
        PinholeHouse house = new PinholeHouse();
        for (int number = 0; number < 8; number++) {
            Check.due(number, house.count(4));
            Check.due(number, house.addRoom(50 - 6 * number, 1 + number, 2 * number));
        }
        Check.thrown(Check.STATE, house, () -> house.addRoom(59, 1, 0));
        Check.due(8, house.count(4));
        for (int number = 0; number < 8; number++) {
            Check.due(50 - 6 * number, house.room(number, 0));
            Check.due(1 + number, house.room(number, 1));
            Check.due(2 * number, house.room(number, 4));
        }
    }

    /** "each has its hole at a step of the street (no two at the same one)" */
    private static void noTwoHolesAreAtTheSameStep() {
        for (int step = 0; step < STEPS; step++) {
            PinholeHouse house = new PinholeHouse();
            int other = (step + 30) % STEPS;
            Check.due(0, house.addRoom(other, 1, 0));
            Check.due(1, house.addRoom(step, 1, 0));
            int taken = step;
            Check.thrown(Check.STATE, house, () -> house.addRoom(taken, 9, 20));
            Check.thrown(Check.STATE, house, () -> house.addRoom(other, 9, 20));
            Check.due(2, house.addRoom((step + 1) % STEPS, 1, 0));
            Check.due(3, house.addRoom((step + STEPS - 1) % STEPS, 1, 0));
        }
    }

    /** "1 to 9 wide (3, at first), its wall has a paint, 0 (white, at first) to 9"; "(none, at first)" */
    private static void roomsBeginWithAHoleOf3WhiteAndEmpty() {
        PinholeHouse house = new PinholeHouse();
        for (int room = 0; room < 8; room++) {
            house.addRoom(room, 9 - room, 20 - room);
            Check.due(3, house.room(room, 2));
            Check.due(0, house.room(room, 3));
            Check.due(0, house.room(room, 5));
            Check.due(0, house.room(room, 7));
        }
    }

    /** "it has 0 to 20 seats, and as many people in them at most" */
    private static void seatsHoldAsManyPeopleAtMost() {
        for (int seats = 0; seats <= 20; seats++) {
            PinholeHouse house = new PinholeHouse();
            house.addRoom(30, 3, seats);
            house.pass(30, 0, 9, 9);
            house.pass(30, 0, 9, 9);
            for (int minute = 1; minute <= 25; minute++) {
                house.go(1);
                Check.due(seats + " seats", Math.min(minute, seats), house.room(0, 5));
            }
            Check.thrown(Check.STATE, house, () -> house.seat(0, 1));
            house.setLight(0, 0, 0);
            for (int minute = 1; minute <= 25; minute++) {
                house.go(1);
                Check.due(seats + " seats in the dark", Math.max(seats - minute, 0), house.room(0, 5));
            }
        }
    }

    /** "Its wall shows the steps of the street that are at most 4 * depth away from its hole" */
    private static void wallsReach4TimesTheDepth() {
        for (int depth = 1; depth <= 9; depth++) {
            for (int step = 0; step < STEPS; step++) {
                PinholeHouse house = new PinholeHouse();
                int[] holes = {0, 1, 29, 30, 58, 59};
                int walls = 0;
                house.pass(step, 0, 9, 9);
                for (int room = 0; room < holes.length; room++) {
                    house.addRoom(holes[room], depth, 0);
                    int place = holes[room] - step;
                    boolean shown = place >= -4 * depth && place <= 4 * depth;
                    walls |= shown ? 1 << room : 0;
                    String turn = "depth " + depth + ", hole " + holes[room] + ", step " + step;
                    Check.due(turn, shown ? 1 : 0, house.bright(room, 0) >= 0 ? 1 : 0);
                    if (shown) {
                        Check.due(turn, 1, house.wall(room, place));
                    } else {
                        int toRefuse = room;
                        Check.thrown(Check.INDEX, house, () -> house.wall(toRefuse, place));
                    }
                }
                Check.due("depth " + depth + ", step " + step, walls, house.seen(0));
            }
        }
    }

    /** "(light * bright * hole * hole / (10 * depth * depth)) * (10 - paint) / 10, cut at each /" */
    private static void brightnessIsCutFromTheLeftToTheRight() {
        for (int light : new int[] {0, 1, 49, 50, 99, 100}) {
            for (int depth = 1; depth <= 9; depth++) {
                for (int hole = 1; hole <= 9; hole++) {
                    expectBrightness(light, depth, hole);
                }
            }
        }
    }

    private static void expectBrightness(int light, int depth, int hole) {
        PinholeHouse house = new PinholeHouse();
        house.setLight(0, light, 0);
        house.addRoom(30, depth, 0);
        house.bore(0, hole);
        for (int bright = 1; bright <= 9; bright++) {
            house.pass(30, 0, 9, bright);
        }
        for (int paint = 0; paint <= 9; paint++) {
            house.paint(0, paint);
            for (int bright = 1; bright <= 9; bright++) {
                int white = light * bright * hole * hole / (10 * depth * depth);
                String turn = "light " + light + ", depth " + depth + ", hole " + hole + ", paint " + paint;
                Check.due(turn, white * (10 - paint) / 10, house.bright(0, bright - 1));
            }
        }
    }

    /** "This one is seen well, if the brightness is 5 or more" */
    private static void brightnessOf5IsSeenWell() {
        for (int light = 0; light <= 100; light++) {
            for (int paint = 0; paint <= 9; paint += 3) {
                PinholeHouse house = new PinholeHouse();
                house.setLight(0, light, 0);
                house.addRoom(30, 3, 0);
                house.paint(0, paint);
                house.pass(30, 0, 9, 1);
                int well = light * 9 / 90 * (10 - paint) / 10 >= 5 ? 1 : 0;
                Check.due("light " + light + ", paint " + paint, well, house.room(0, 6));
                Check.due("light " + light + ", paint " + paint, well, house.passer(0, 4));
            }
        }
    }

    /** "and the blur is at most the tallness"; "the blur hole * depth / 3" */
    private static void blurOfTheTallnessIsSeenWell() {
        for (int hole = 1; hole <= 9; hole++) {
            for (int depth = 1; depth <= 9; depth++) {
                PinholeHouse house = new PinholeHouse();
                house.setLight(0, 100, 0);
                house.addRoom(30, depth, 0);
                house.bore(0, hole);
                for (int tall = 1; tall <= 9; tall++) {
                    house.pass(30, 0, tall, 9);
                }
                boolean brightEnough = 900 * hole * hole / (10 * depth * depth) >= 5;
                for (int tall = 1; tall <= 9; tall++) {
                    int well = brightEnough && hole * depth / 3 <= tall ? 1 : 0;
                    String turn = "hole " + hole + ", depth " + depth + ", tall " + tall;
                    Check.due(turn, well, house.passer(tall - 1, 4));
                }
            }
        }
    }

    /** "with a show of 0 one of the people leaves, if there is one; otherwise ..; then, .. one more comes, if there is a seat" */
    private static void aMinuteWithEachShowAndEachNumberOfPeople() {
        for (int show = 0; show <= 10; show++) {
            for (int seats : new int[] {0, 1, 2, 19, 20}) {
                for (int people = 0; people <= seats; people++) {
                    expectMinuteOf(show, seats, people);
                }
            }
        }
    }

    private static void expectMinuteOf(int show, int seats, int people) {
        PinholeHouse house = new PinholeHouse();
        house.addRoom(30, 3, seats);
        for (int i = 0; i < show; i++) {
            house.pass(30, 0, 9, 9);
        }
        if (people > 0) {
            house.seat(0, people);
        }
        String turn = "show " + show + ", seats " + seats + ", people " + people;
        int paid = people * Math.min(show, 2);
        int after = show == 0 ? Math.max(people - 1, 0) : show == 1 ? people : Math.min(people + 1, seats);
        Check.due(turn, show, house.room(0, 6));
        Check.due(turn, paid, house.foresee(1, 0));
        Check.due(turn, after, house.foresee(1, 1));
        Check.due(turn, paid, house.go(1));
        Check.due(turn, after, house.room(0, 5));
        Check.due(turn, paid, house.room(0, 7));
    }
}
