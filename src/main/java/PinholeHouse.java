/** A pinhole cinema: rooms along a street, on whose walls the passers-by are shown. */
public final class PinholeHouse {
    private static final int STEPS = 60;
    private static final int FASTEST = 3;
    private static final int MOST_PASSERS = 10;
    private static final int MOST_ROOMS = 8;
    private static final int MOST_SEATS = 20;
    private static final int HOURS = 12;
    private static final int MINUTES_AN_HOUR = 60;
    private static final int DAY = HOURS * MINUTES_AN_HOUR;
    private static final int MOST_LIGHT = 100;
    private static final int FIRST_LIGHT = 50;
    private static final int FIRST_HOLE = 3;
    private static final int REACH_A_DEPTH = 4;
    private static final int LEAST_BRIGHTNESS = 5;
    private static final int DEAREST_SHOW = 2;
    private static final int LONGEST_ADVICE = 200;
    private static final int GONE = -1;
    private static final int PASSER_FACTS = 5;
    private static final int ROOM_FACTS = 8;
    private static final int COUNTS = 9;
    private static final int FORESEEN = 3;

    private final Sky sky = new Sky();
    private final Scene now = new Scene();
    // What would be is tried out here, so that no call has to make a scene of its own.
    private final Scene trial = new Scene();

    public PinholeHouse() {
    }

    // ---- street, light, rooms

    public int pass(int step, int pace, int tall, int bright) throws IllegalArgumentException, IllegalStateException {
        if (!isStep(step) || pace < -FASTEST || pace > FASTEST || !isOneToNine(tall) || !isOneToNine(bright)) {
            throw new IllegalArgumentException();
        }
        if (now.passersCome >= MOST_PASSERS) {
            throw new IllegalStateException();
        }
        int number = now.passersCome;
        now.passers[number].come(step, pace, tall, bright);
        now.passersCome++;
        return number;
    }

    public int setLight(int hour, int light, int clouds) throws IndexOutOfBoundsException, IllegalArgumentException {
        if (hour < 0 || hour >= HOURS) {
            throw new IndexOutOfBoundsException();
        }
        if (light < 0 || light > MOST_LIGHT || !isZeroToNine(clouds)) {
            throw new IllegalArgumentException();
        }
        int before = sky.entry(hour);
        sky.light[hour] = light;
        sky.clouds[hour] = clouds;
        return before;
    }

    public int addRoom(int step, int depth, int seats) throws IllegalArgumentException, IllegalStateException {
        if (!isStep(step) || !isOneToNine(depth) || seats < 0 || seats > MOST_SEATS) {
            throw new IllegalArgumentException();
        }
        if (now.roomsBuilt >= MOST_ROOMS || now.hasHoleAt(step)) {
            throw new IllegalStateException();
        }
        int number = now.roomsBuilt;
        now.rooms[number].build(step, depth, seats);
        now.roomsBuilt++;
        return number;
    }

    public int bore(int room, int hole) throws IndexOutOfBoundsException, IllegalArgumentException {
        needRoom(room);
        if (!isOneToNine(hole)) {
            throw new IllegalArgumentException();
        }
        int before = now.rooms[room].hole;
        now.rooms[room].hole = hole;
        return before;
    }

    public int paint(int room, int paint) throws IndexOutOfBoundsException, IllegalArgumentException {
        needRoom(room);
        if (!isZeroToNine(paint)) {
            throw new IllegalArgumentException();
        }
        int before = now.rooms[room].paint;
        now.rooms[room].paint = paint;
        return before;
    }

    public int seat(int room, int people) throws IndexOutOfBoundsException, IllegalArgumentException, IllegalStateException {
        needRoom(room);
        if (people < 1 || people > MOST_SEATS) {
            throw new IllegalArgumentException();
        }
        Room seated = now.rooms[room];
        if (people > seated.seats - seated.people) {
            throw new IllegalStateException();
        }
        seated.people += people;
        return seated.people;
    }

    // ---- what is there

    public int passer(int passer, int what) throws IndexOutOfBoundsException {
        needPasser(passer);
        needBelow(what, PASSER_FACTS);
        return passerFact(passer, what);
    }

    public int room(int room, int what) throws IndexOutOfBoundsException {
        needRoom(room);
        needBelow(what, ROOM_FACTS);
        return roomFact(room, what);
    }

    public int wall(int room, int place) throws IndexOutOfBoundsException {
        needRoom(room);
        Room shown = now.rooms[room];
        if (place < -shown.reach() || place > shown.reach()) {
            throw new IndexOutOfBoundsException();
        }
        return now.passersAt(shown.step - place);
    }

    public int bright(int room, int passer) throws IndexOutOfBoundsException {
        needRoom(room);
        needPasser(passer);
        Room wall = now.rooms[room];
        Passer shown = now.passers[passer];
        return wall.shows(shown) ? wall.brightnessOf(shown, lightNow()) : -1;
    }

    public int count(int what) throws IndexOutOfBoundsException {
        needBelow(what, COUNTS);
        return houseFact(what);
    }

    // ---- minutes

    public int go(int minutes) throws IllegalArgumentException {
        needMinutes(minutes, DAY);
        return letGoBy(now, minutes);
    }

    // ---- what would be

    public int when(int room) throws IndexOutOfBoundsException {
        needRoom(room);
        trial.copyFrom(now);
        int greatest = 0;
        int best = -1;
        for (int minute = now.minute; minute < DAY; minute++) {
            int show = trial.showIn(trial.rooms[room], sky.lightAt(minute));
            if (show > greatest) {
                greatest = show;
                best = minute;
            }
            trial.passersWalk();
        }
        return best;
    }

    public int advise(int room, int minutes) throws IndexOutOfBoundsException, IllegalArgumentException {
        needRoom(room);
        needMinutes(minutes, LONGEST_ADVICE);
        int most = -1;
        int best = 1;
        for (int hole = 1; hole <= 9; hole++) {
            int paid = paidWithHole(room, hole, minutes);
            if (paid > most) {
                most = paid;
                best = hole;
            }
        }
        return best;
    }

    public int seen(int passer) throws IndexOutOfBoundsException {
        needPasser(passer);
        Passer walker = trial.passers[passer];
        walker.copyFrom(now.passers[passer]);
        int walls = now.wallsWith(walker);
        for (int minute = now.minute + 1; minute < DAY; minute++) {
            walker.walk();
            walls |= now.wallsWith(walker);
        }
        return walls;
    }

    public int foresee(int minutes, int what) throws IllegalArgumentException, IndexOutOfBoundsException {
        needMinutes(minutes, DAY);
        needBelow(what, FORESEEN);
        trial.copyFrom(now);
        int paid = letGoBy(trial, minutes);
        if (what == 0) {
            return paid;
        }
        return what == 1 ? trial.allPeople() : trial.passersCome - trial.passersGone();
    }

    public double mean() {
        if (now.minute == 0) {
            return 0;
        }
        return (double) now.allPence() / now.minute;
    }

    public long digest() {
        long d = 853;
        for (int what = 0; what < COUNTS; what++) {
            d = d * 31 + houseFact(what);
        }
        for (int hour = 0; hour < HOURS; hour++) {
            d = d * 31 + sky.entry(hour);
        }
        for (int passer = 0; passer < now.passersCome; passer++) {
            for (int what = 0; what < PASSER_FACTS; what++) {
                d = d * 31 + passerFact(passer, what);
            }
        }
        for (int room = 0; room < now.roomsBuilt; room++) {
            for (int what = 0; what < ROOM_FACTS; what++) {
                d = d * 31 + roomFact(room, what);
            }
        }
        return d;
    }

    // ---- what the calls need of their arguments

    private static boolean isStep(int step) {
        return step >= 0 && step < STEPS;
    }

    private static boolean isOneToNine(int number) {
        return number >= 1 && number <= 9;
    }

    private static boolean isZeroToNine(int number) {
        return number >= 0 && number <= 9;
    }

    private void needPasser(int passer) {
        needBelow(passer, now.passersCome);
    }

    private void needRoom(int room) {
        needBelow(room, now.roomsBuilt);
    }

    private static void needBelow(int index, int bound) {
        if (index < 0 || index >= bound) {
            throw new IndexOutOfBoundsException();
        }
    }

    private static void needMinutes(int minutes, int most) {
        if (minutes < 1 || minutes > most) {
            throw new IllegalArgumentException();
        }
    }

    // ---- what is told

    private int lightNow() {
        return sky.lightAt(now.minute);
    }

    private int passerFact(int number, int what) {
        Passer passer = now.passers[number];
        switch (what) {
            case 0: return passer.step;
            case 1: return passer.pace;
            case 2: return passer.tall;
            case 3: return passer.bright;
            default: return now.roomsSeeingWell(passer, lightNow());
        }
    }

    private int roomFact(int number, int what) {
        Room room = now.rooms[number];
        switch (what) {
            case 0: return room.step;
            case 1: return room.depth;
            case 2: return room.hole;
            case 3: return room.paint;
            case 4: return room.seats;
            case 5: return room.people;
            case 6: return now.showIn(room, lightNow());
            default: return room.pence;
        }
    }

    private int houseFact(int what) {
        switch (what) {
            case 0: return now.minute;
            case 1: return lightNow();
            case 2: return now.passersCome;
            case 3: return now.passersGone();
            case 4: return now.roomsBuilt;
            case 5: return now.allPeople();
            case 6: return now.allShows(lightNow());
            case 7: return now.allPence();
            default: return now.minute >= DAY ? 1 : 0;
        }
    }

    // ---- what goes by

    private int letGoBy(Scene scene, int minutes) {
        int end = Math.min(scene.minute + minutes, DAY);
        int paid = 0;
        for (int minute = scene.minute; minute < end; minute++) {
            scene.passersWalk();
            paid += scene.roomsPay(sky.lightAt(minute));
            scene.minute++;
        }
        return paid;
    }

    private int paidWithHole(int number, int hole, int minutes) {
        trial.copyFrom(now);
        Room room = trial.rooms[number];
        room.hole = hole;
        int end = Math.min(now.minute + minutes, DAY);
        int paid = 0;
        // No room minds another, so that this one alone need be followed.
        for (int minute = now.minute; minute < end; minute++) {
            trial.passersWalk();
            paid += room.pay(trial.showIn(room, sky.lightAt(minute)));
        }
        return paid;
    }

    /** The light and the clouds of each hour. */
    private static final class Sky {
        private final int[] light = new int[HOURS];
        private final int[] clouds = new int[HOURS];

        private Sky() {
            for (int hour = 0; hour < HOURS; hour++) {
                light[hour] = FIRST_LIGHT;
            }
        }

        private int entry(int hour) {
            return 10 * light[hour] + clouds[hour];
        }

        private int lightAt(int minute) {
            if (minute < 0 || minute >= DAY) {
                return 0;
            }
            int hour = minute / MINUTES_AN_HOUR;
            return light[hour] * (10 - clouds[hour]) / 10;
        }
    }

    /** One who goes along the street. */
    private static final class Passer {
        private int step = GONE;
        private int pace;
        private int tall;
        private int bright;

        private void come(int newStep, int newPace, int newTall, int newBright) {
            step = newStep;
            pace = newPace;
            tall = newTall;
            bright = newBright;
        }

        private void copyFrom(Passer other) {
            come(other.step, other.pace, other.tall, other.bright);
        }

        private boolean isGone() {
            return step == GONE;
        }

        private void walk() {
            if (!isGone()) {
                step = isStep(step + pace) ? step + pace : GONE;
            }
        }
    }

    /** A room with its hole, its wall and its people. */
    private static final class Room {
        private int step;
        private int depth;
        private int hole;
        private int paint;
        private int seats;
        private int people;
        private int pence;

        private void build(int newStep, int newDepth, int newSeats) {
            step = newStep;
            depth = newDepth;
            seats = newSeats;
            hole = FIRST_HOLE;
        }

        private void copyFrom(Room other) {
            build(other.step, other.depth, other.seats);
            hole = other.hole;
            paint = other.paint;
            people = other.people;
            pence = other.pence;
        }

        private int reach() {
            return REACH_A_DEPTH * depth;
        }

        private boolean shows(Passer passer) {
            return !passer.isGone() && Math.abs(passer.step - step) <= reach();
        }

        private int brightnessOf(Passer passer, int light) {
            int spread = 10 * depth * depth;
            // A room that is not built has no depth.
            if (spread == 0) {
                return 0;
            }
            return light * passer.bright * hole * hole / spread * (10 - paint) / 10;
        }

        private boolean showsWell(Passer passer, int light) {
            return shows(passer) && hole * depth / 3 <= passer.tall
                && brightnessOf(passer, light) >= LEAST_BRIGHTNESS;
        }

        /** Takes a minute's pence for the show; people come or leave after it. */
        private int pay(int show) {
            if (show == 0) {
                people = Math.max(people - 1, 0);
                return 0;
            }
            int paid = people * Math.min(show, DEAREST_SHOW);
            pence += paid;
            if (show >= 2 && people < seats) {
                people++;
            }
            return paid;
        }
    }

    /** The street and the rooms in one minute. */
    private static final class Scene {
        private int minute;
        private int passersCome;
        private int roomsBuilt;
        private final Passer[] passers = new Passer[MOST_PASSERS];
        private final Room[] rooms = new Room[MOST_ROOMS];

        private Scene() {
            for (int i = 0; i < MOST_PASSERS; i++) {
                passers[i] = new Passer();
            }
            for (int i = 0; i < MOST_ROOMS; i++) {
                rooms[i] = new Room();
            }
        }

        private void copyFrom(Scene other) {
            minute = other.minute;
            passersCome = other.passersCome;
            roomsBuilt = other.roomsBuilt;
            for (int i = 0; i < passersCome; i++) {
                passers[i].copyFrom(other.passers[i]);
            }
            for (int i = 0; i < roomsBuilt; i++) {
                rooms[i].copyFrom(other.rooms[i]);
            }
        }

        private boolean hasHoleAt(int step) {
            for (int i = 0; i < roomsBuilt; i++) {
                if (rooms[i].step == step) {
                    return true;
                }
            }
            return false;
        }

        private int passersAt(int step) {
            int found = 0;
            for (int i = 0; i < passersCome; i++) {
                // The step beside the street's end is no place of those who are gone.
                if (!passers[i].isGone() && passers[i].step == step) {
                    found++;
                }
            }
            return found;
        }

        private int passersGone() {
            int gone = 0;
            for (int i = 0; i < passersCome; i++) {
                if (passers[i].isGone()) {
                    gone++;
                }
            }
            return gone;
        }

        private int showIn(Room room, int light) {
            int show = 0;
            for (int i = 0; i < passersCome; i++) {
                if (room.showsWell(passers[i], light)) {
                    show++;
                }
            }
            return show;
        }

        private int roomsSeeingWell(Passer passer, int light) {
            int found = 0;
            for (int i = 0; i < roomsBuilt; i++) {
                if (rooms[i].showsWell(passer, light)) {
                    found++;
                }
            }
            return found;
        }

        private int wallsWith(Passer passer) {
            int walls = 0;
            for (int i = 0; i < roomsBuilt; i++) {
                if (rooms[i].shows(passer)) {
                    walls |= 1 << i;
                }
            }
            return walls;
        }

        private int allShows(int light) {
            int sum = 0;
            for (int i = 0; i < roomsBuilt; i++) {
                sum += showIn(rooms[i], light);
            }
            return sum;
        }

        private int allPeople() {
            int sum = 0;
            for (int i = 0; i < roomsBuilt; i++) {
                sum += rooms[i].people;
            }
            return sum;
        }

        private int allPence() {
            int sum = 0;
            for (int i = 0; i < roomsBuilt; i++) {
                sum += rooms[i].pence;
            }
            return sum;
        }

        private void passersWalk() {
            for (int i = 0; i < passersCome; i++) {
                passers[i].walk();
            }
        }

        private int roomsPay(int light) {
            int paid = 0;
            for (int i = 0; i < roomsBuilt; i++) {
                paid += rooms[i].pay(showIn(rooms[i], light));
            }
            return paid;
        }
    }
}
